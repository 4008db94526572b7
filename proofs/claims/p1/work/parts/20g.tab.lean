/-! TABLES, by program -/
section SN
theorem hq_190 : (e_ml[190]?).map (·.2.1) = some prog_14_method_70_code := rfl
theorem ho_190 : (e_ml[190]?).map (·.1.cls) = some "PlateroomprinterModel" := rfl
theorem hr_190 : (e_ml[190]?).map (·.2.2.2) = some (some .int) := rfl
noncomputable def n_190_51 : e_Y := u_retI
theorem t_190_51 : e_Sn 190 51 (e_un n_190_51) := u_retIT (s_iret hq_190 hr_190 (by decide +kernel) : e_Sn 190 51 (o_ret e_okI))
noncomputable def n_190_50 : e_Y := u_ld f_okI f_l3 n_190_51
theorem t_190_50 : e_Sn 190 50 (e_un n_190_50) := u_ldIT f_l3_eq (s_iload (i := .iload_n 3) (len := 1) hq_190 (by decide +kernel) rfl (.inr ⟨3, rfl, rfl, rfl⟩) : e_Sn 190 50 (o_load e_okI 3 51)) t_190_51
noncomputable def n_190_47 : e_Y := (u_at 5)
theorem t_190_47 : e_Sn 190 47 (e_un n_190_47) := u_gotoT (s_goto (off := (-42)) hq_190 (by decide +kernel) rfl : e_Sn 190 47 (o_goto 5)) u_atT
noncomputable def n_190_44 : e_Y := u_inc f_l4 f_s4 1 n_190_47
theorem t_190_44 : e_Sn 190 44 (e_un n_190_44) := u_incT f_l4_eq (fun _ _ _ => f_s4_eq) (s_iinc (zz := (1)) hq_190 (by decide +kernel) rfl (by decide +kernel) ⟨by decide, by decide⟩ : e_Sn 190 44 (o_iinc 4 1 47)) t_190_47
noncomputable def n_190_43 : e_Y := u_st f_okI f_s3 n_190_44
theorem t_190_43 : e_Sn 190 43 (e_un n_190_43) := u_stIT (fun _ _ _ => f_s3_eq) (s_istore (i := .istore_n 3) (len := 1) hq_190 (by decide +kernel) rfl (.inr ⟨3, rfl, rfl, rfl⟩) : e_Sn 190 43 (o_store e_okI 3 44)) t_190_44
noncomputable def n_190_42 : e_Y := u_bin a_ior (u_old (o_bin Nat.lor 43) n_190_43) n_190_43
theorem t_190_42 : e_Sn 190 42 (e_un n_190_42) := u_iorT (s_ior hq_190 (by decide +kernel) rfl : e_Sn 190 42 (o_bin Nat.lor 43)) t_190_43
noncomputable def n_190_41 : e_Y := u_bin a_ishl (u_old (o_ishl 42) n_190_42) n_190_42
theorem t_190_41 : e_Sn 190 41 (e_un n_190_41) := u_ishlT (s_ishl hq_190 (by decide +kernel) rfl : e_Sn 190 41 (o_ishl 42)) t_190_42
noncomputable def n_190_39 : e_Y := u_ld f_okI f_l4 n_190_41
theorem t_190_39 : e_Sn 190 39 (e_un n_190_39) := u_ldIT f_l4_eq (s_iload (i := .iload 4) (len := 2) hq_190 (by decide +kernel) rfl (.inl ⟨rfl, rfl⟩) : e_Sn 190 39 (o_load e_okI 4 41)) t_190_41
noncomputable def n_190_36 : e_Y := u_callS 180 1 20 1 n_180_0 n_190_39
theorem t_190_36 : e_Sn 190 36 (e_un n_190_36) := u_callST rfl (s_callS (index := 107) hq_190 ho_190 hy_180 hp_180 hc_180 hi_180 hd_180 (List.mem_of_getElem? (i := 2482) (by decide +kernel)) hs_180 (by decide +kernel) rfl : e_Sn 190 36 (o_callS 180 1 1 39)) t_180_0 t_190_39
noncomputable def n_190_35 : e_Y := u_ald 1 (u_old (o_aldO 1 36) n_190_36) n_190_36
theorem t_190_35 : e_Sn 190 35 (e_un n_190_35) := u_aldOT (s_zald hq_190 (by decide +kernel) rfl : e_Sn 190 35 (o_aldO 1 36)) t_190_36
noncomputable def n_190_34 : e_Y := u_bin a_iadd (u_old (o_iadd 35) n_190_35) n_190_35
theorem t_190_34 : e_Sn 190 34 (e_un n_190_34) := u_iaddT (s_iadd hq_190 (by decide +kernel) rfl : e_Sn 190 34 (o_iadd 35)) t_190_35
noncomputable def n_190_32 : e_Y := u_ld f_okI f_l4 n_190_34
theorem t_190_32 : e_Sn 190 32 (e_un n_190_32) := u_ldIT f_l4_eq (s_iload (i := .iload 4) (len := 2) hq_190 (by decide +kernel) rfl (.inl ⟨rfl, rfl⟩) : e_Sn 190 32 (o_load e_okI 4 34)) t_190_34
noncomputable def n_190_31 : e_Y := u_bin a_iadd (u_old (o_iadd 32) n_190_32) n_190_32
theorem t_190_31 : e_Sn 190 31 (e_un n_190_31) := u_iaddT (s_iadd hq_190 (by decide +kernel) rfl : e_Sn 190 31 (o_iadd 32)) t_190_32
noncomputable def n_190_30 : e_Y := u_bin a_imul (u_old (o_imul 31) n_190_31) n_190_31
theorem t_190_30 : e_Sn 190 30 (e_un n_190_30) := u_imulT (s_imul hq_190 (by decide +kernel) rfl : e_Sn 190 30 (o_imul 31)) t_190_31
noncomputable def n_190_28 : e_Y := u_push (.inl 2147483680) n_190_30
theorem t_190_28 : e_Sn 190 28 (e_un n_190_28) := u_pushT (s_bipush (n := (32)) hq_190 (by decide +kernel) rfl ⟨by decide +kernel, by decide +kernel⟩ : e_Sn 190 28 (o_push (.inl 2147483680) 30)) t_190_30
noncomputable def n_190_27 : e_Y := u_ld f_okI f_l2 n_190_28
theorem t_190_27 : e_Sn 190 27 (e_un n_190_27) := u_ldIT f_l2_eq (s_iload (i := .iload_n 2) (len := 1) hq_190 (by decide +kernel) rfl (.inr ⟨2, rfl, rfl, rfl⟩) : e_Sn 190 27 (o_load e_okI 2 28)) t_190_28
noncomputable def n_190_26 : e_Y := u_bin a_imul (u_old (o_imul 27) n_190_27) n_190_27
theorem t_190_26 : e_Sn 190 26 (e_un n_190_26) := u_imulT (s_imul hq_190 (by decide +kernel) rfl : e_Sn 190 26 (o_imul 27)) t_190_27
noncomputable def n_190_24 : e_Y := u_push (.inl 2147483680) n_190_26
theorem t_190_24 : e_Sn 190 24 (e_un n_190_24) := u_pushT (s_bipush (n := (32)) hq_190 (by decide +kernel) rfl ⟨by decide +kernel, by decide +kernel⟩ : e_Sn 190 24 (o_push (.inl 2147483680) 26)) t_190_26
noncomputable def n_190_23 : e_Y := u_bin a_imul (u_old (o_imul 24) n_190_24) n_190_24
theorem t_190_23 : e_Sn 190 23 (e_un n_190_23) := u_imulT (s_imul hq_190 (by decide +kernel) rfl : e_Sn 190 23 (o_imul 24)) t_190_24
noncomputable def n_190_21 : e_Y := u_push (.inl 2147483680) n_190_23
theorem t_190_21 : e_Sn 190 21 (e_un n_190_21) := u_pushT (s_bipush (n := (32)) hq_190 (by decide +kernel) rfl ⟨by decide +kernel, by decide +kernel⟩ : e_Sn 190 21 (o_push (.inl 2147483680) 23)) t_190_23
noncomputable def n_190_20 : e_Y := u_ld f_okI f_l1 n_190_21
theorem t_190_20 : e_Sn 190 20 (e_un n_190_20) := u_ldIT f_l1_eq (s_iload (i := .iload_n 1) (len := 1) hq_190 (by decide +kernel) rfl (.inr ⟨1, rfl, rfl, rfl⟩) : e_Sn 190 20 (o_load e_okI 1 21)) t_190_21
noncomputable def n_190_17 : e_Y := u_getf 13 6 (u_old (o_getf (e_f1 13 6) 20) n_190_20) n_190_20
theorem t_190_17 : e_Sn 190 17 (e_un n_190_17) := u_getfT (s_getf (C := er_13) (T := et_13) (N := 13) (ref := "PlateroomprinterModel$Machine") (index := 324) (ci := 13) (k := 6) hq_190 ho_190 ⟨rfl, by decide, ei_13, (List.mem_of_getElem? (i := 1910) (by decide +kernel)), .inl rfl⟩ (by decide +kernel) rfl : e_Sn 190 17 (o_getf (e_f1 13 6) 20)) t_190_20
noncomputable def n_190_14 : e_Y := u_getf 12 1 (u_old (o_getf (e_f1 12 1) 17) n_190_17) n_190_17
theorem t_190_14 : e_Sn 190 14 (e_un n_190_14) := u_getfT (s_getf (C := er_12) (T := et_12) (N := 5) (ref := "PlateroomprinterModel") (index := 10) (ci := 12) (k := 1) hq_190 ho_190 ⟨rfl, by decide, ei_12, (List.mem_of_getElem? (i := 1959) (by decide +kernel)), .inl rfl⟩ (by decide +kernel) rfl : e_Sn 190 14 (o_getf (e_f1 12 1) 17)) t_190_17
noncomputable def n_190_13 : e_Y := u_ld f_okA f_l0 n_190_14
theorem t_190_13 : e_Sn 190 13 (e_un n_190_13) := u_ldAT f_l0_eq (s_aload (i := .aload_n 0) (len := 1) hq_190 (by decide +kernel) rfl (.inr ⟨0, rfl, rfl, rfl⟩) : e_Sn 190 13 (o_load e_okR 0 14)) t_190_14
noncomputable def n_190_12 : e_Y := u_ld f_okI f_l3 n_190_13
theorem t_190_12 : e_Sn 190 12 (e_un n_190_12) := u_ldIT f_l3_eq (s_iload (i := .iload_n 3) (len := 1) hq_190 (by decide +kernel) rfl (.inr ⟨3, rfl, rfl, rfl⟩) : e_Sn 190 12 (o_load e_okI 3 13)) t_190_13
noncomputable def n_190_9 : e_Y := u_jmp y_ge (u_old2 (o_clt 12 50) 12 n_190_12 n_190_50) n_190_12 n_190_50
theorem t_190_9 : e_Sn 190 9 (e_un n_190_9) := u_cltT rfl (s_cge (off := (41)) hq_190 (by decide +kernel) rfl rfl : e_Sn 190 9 (o_clt 12 50)) t_190_12 t_190_50
noncomputable def n_190_7 : e_Y := u_push (.inl 2147483680) n_190_9
theorem t_190_7 : e_Sn 190 7 (e_un n_190_7) := u_pushT (s_bipush (n := (32)) hq_190 (by decide +kernel) rfl ⟨by decide +kernel, by decide +kernel⟩ : e_Sn 190 7 (o_push (.inl 2147483680) 9)) t_190_9
noncomputable def n_190_5 : e_Y := u_ld f_okI f_l4 n_190_7
theorem t_190_5 : e_Sn 190 5 (e_un n_190_5) := u_ldIT f_l4_eq (s_iload (i := .iload 4) (len := 2) hq_190 (by decide +kernel) rfl (.inl ⟨rfl, rfl⟩) : e_Sn 190 5 (o_load e_okI 4 7)) t_190_7
noncomputable def n_190_3 : e_Y := u_st f_okI f_s4 n_190_5
theorem t_190_3 : e_Sn 190 3 (e_un n_190_3) := u_stIT (fun _ _ _ => f_s4_eq) (s_istore (i := .istore 4) (len := 2) hq_190 (by decide +kernel) rfl (.inl ⟨rfl, rfl⟩) : e_Sn 190 3 (o_store e_okI 4 5)) t_190_5
noncomputable def n_190_2 : e_Y := u_push (.inl 2147483648) n_190_3
theorem t_190_2 : e_Sn 190 2 (e_un n_190_2) := u_pushT (s_iconst (n := (0)) hq_190 (by decide +kernel) rfl ⟨by decide +kernel, by decide +kernel⟩ : e_Sn 190 2 (o_push (.inl 2147483648) 3)) t_190_3
noncomputable def n_190_1 : e_Y := u_st f_okI f_s3 n_190_2
theorem t_190_1 : e_Sn 190 1 (e_un n_190_1) := u_stIT (fun _ _ _ => f_s3_eq) (s_istore (i := .istore_n 3) (len := 1) hq_190 (by decide +kernel) rfl (.inr ⟨3, rfl, rfl, rfl⟩) : e_Sn 190 1 (o_store e_okI 3 2)) t_190_2
noncomputable def n_190_0 : e_Y := u_push (.inl 2147483648) n_190_1
theorem t_190_0 : e_Sn 190 0 (e_un n_190_0) := u_pushT (s_iconst (n := (0)) hq_190 (by decide +kernel) rfl ⟨by decide +kernel, by decide +kernel⟩ : e_Sn 190 0 (o_push (.inl 2147483648) 1)) t_190_1
noncomputable def e_tb_190 : e_X := (e_br 5 (e_lf 0 (e_un n_190_0)) (e_lf 5 (e_un n_190_5)))
theorem e_tk_190 : e_Tb 190 e_tb_190 := (e_brT (e_lfT t_190_0) (e_lfT t_190_5))
theorem hq_235 : (e_ml[235]?).map (·.2.1) = some prog_51_method_1_code := rfl
theorem ho_235 : (e_ml[235]?).map (·.1.cls) = some "java/util/ArrayList$Itr" := rfl
theorem hr_235 : (e_ml[235]?).map (·.2.2.2) = some none := rfl
noncomputable def n_235_25 : e_Y := u_tab (o_retv)
theorem t_235_25 : e_Sn 235 25 (e_un n_235_25) := u_tabT (s_vret hq_235 hr_235 (by decide +kernel) : e_Sn 235 25 (o_retv))
noncomputable def n_235_22 : e_Y := u_old (o_putf (e_f1 19 2) e_okI 25) n_235_25
theorem t_235_22 : e_Sn 235 22 (e_un n_235_22) := u_oldT (s_putf (ty0 := ey_19) (ok := e_okI) (C := er_19) (T := et_19) (N := 4) (ref := "java/util/ArrayList$Itr") (index := 22) (ci := 19) (k := 2) hq_235 ho_235 ⟨rfl, by decide, ei_19, (List.mem_of_getElem? (i := 2840) (by decide +kernel)), .inl rfl⟩ eo_19 en_19 e_oksI (.inl rfl) (by decide +kernel) rfl : e_Sn 235 22 (o_putf (e_f1 19 2) e_okI 25)) t_235_25 (e_cg_putf (e_f1 19 2) e_okI)
noncomputable def n_235_19 : e_Y := u_getf 18 2 (u_old (o_getf (e_f1 18 2) 22) n_235_22) n_235_22
theorem t_235_19 : e_Sn 235 19 (e_un n_235_19) := u_getfT (s_getf (C := er_18) (T := et_18) (N := 3) (ref := "java/util/ArrayList") (index := 17) (ci := 18) (k := 2) hq_235 ho_235 ⟨rfl, by decide, ei_18, (List.mem_of_getElem? (i := 1769) (by decide +kernel)), .inr (List.mem_of_getElem? (i := 1770) (by decide +kernel))⟩ (by decide +kernel) rfl : e_Sn 235 19 (o_getf (e_f1 18 2) 22)) t_235_22
noncomputable def n_235_16 : e_Y := u_getf 19 3 (u_old (o_getf (e_f1 19 3) 19) n_235_19) n_235_19
theorem t_235_16 : e_Sn 235 16 (e_un n_235_16) := u_getfT (s_getf (C := er_19) (T := et_19) (N := 4) (ref := "java/util/ArrayList$Itr") (index := 1) (ci := 19) (k := 3) hq_235 ho_235 ⟨rfl, by decide, ei_19, (List.mem_of_getElem? (i := 2841) (by decide +kernel)), .inl rfl⟩ (by decide +kernel) rfl : e_Sn 235 16 (o_getf (e_f1 19 3) 19)) t_235_19
noncomputable def n_235_15 : e_Y := u_ld f_okA f_l0 n_235_16
theorem t_235_15 : e_Sn 235 15 (e_un n_235_15) := u_ldAT f_l0_eq (s_aload (i := .aload_n 0) (len := 1) hq_235 (by decide +kernel) rfl (.inr ⟨0, rfl, rfl, rfl⟩) : e_Sn 235 15 (o_load e_okR 0 16)) t_235_16
noncomputable def n_235_14 : e_Y := u_ld f_okA f_l0 n_235_15
theorem t_235_14 : e_Sn 235 14 (e_un n_235_14) := u_ldAT f_l0_eq (s_aload (i := .aload_n 0) (len := 1) hq_235 (by decide +kernel) rfl (.inr ⟨0, rfl, rfl, rfl⟩) : e_Sn 235 14 (o_load e_okR 0 15)) t_235_15
noncomputable def n_235_11 : e_Y := u_old (o_putf (e_f1 19 1) e_okI 14) n_235_14
theorem t_235_11 : e_Sn 235 11 (e_un n_235_11) := u_oldT (s_putf (ty0 := ey_19) (ok := e_okI) (C := er_19) (T := et_19) (N := 4) (ref := "java/util/ArrayList$Itr") (index := 13) (ci := 19) (k := 1) hq_235 ho_235 ⟨rfl, by decide, ei_19, (List.mem_of_getElem? (i := 2839) (by decide +kernel)), .inl rfl⟩ eo_19 en_19 e_oksI (.inl rfl) (by decide +kernel) rfl : e_Sn 235 11 (o_putf (e_f1 19 1) e_okI 14)) t_235_14 (e_cg_putf (e_f1 19 1) e_okI)
noncomputable def n_235_10 : e_Y := u_push (.inl 2147483647) n_235_11
theorem t_235_10 : e_Sn 235 10 (e_un n_235_10) := u_pushT (s_iconst (n := (-1)) hq_235 (by decide +kernel) rfl ⟨by decide +kernel, by decide +kernel⟩ : e_Sn 235 10 (o_push (.inl 2147483647) 11)) t_235_11
noncomputable def n_235_9 : e_Y := u_ld f_okA f_l0 n_235_10
theorem t_235_9 : e_Sn 235 9 (e_un n_235_9) := u_ldAT f_l0_eq (s_aload (i := .aload_n 0) (len := 1) hq_235 (by decide +kernel) rfl (.inr ⟨0, rfl, rfl, rfl⟩) : e_Sn 235 9 (o_load e_okR 0 10)) t_235_10
noncomputable def n_235_6 : e_Y := u_tab (o_oinit 9)
theorem t_235_6 : e_Sn 235 6 (e_un n_235_6) := u_tabT (s_oinit (idx := 7) hq_235 ho_235 (List.mem_of_getElem? (i := 2837) (by decide +kernel)) (List.mem_of_getElem? (i := 190) (by decide +kernel)) (List.mem_of_getElem? (i := 191) (by decide +kernel)) (by decide +kernel) rfl : e_Sn 235 6 (o_oinit 9))
noncomputable def n_235_5 : e_Y := u_ld f_okA f_l0 n_235_6
theorem t_235_5 : e_Sn 235 5 (e_un n_235_5) := u_ldAT f_l0_eq (s_aload (i := .aload_n 0) (len := 1) hq_235 (by decide +kernel) rfl (.inr ⟨0, rfl, rfl, rfl⟩) : e_Sn 235 5 (o_load e_okR 0 6)) t_235_6
noncomputable def n_235_2 : e_Y := u_old (o_putf (e_f1 19 3) e_okR 5) n_235_5
theorem t_235_2 : e_Sn 235 2 (e_un n_235_2) := u_oldT (s_putf (ty0 := ey_19) (ok := e_okR) (C := er_19) (T := et_19) (N := 4) (ref := "java/util/ArrayList$Itr") (index := 1) (ci := 19) (k := 3) hq_235 ho_235 ⟨rfl, by decide, ei_19, (List.mem_of_getElem? (i := 2841) (by decide +kernel)), .inl rfl⟩ eo_19 en_19 e_oksR (.inr ⟨rfl, rfl, rfl⟩) (by decide +kernel) rfl : e_Sn 235 2 (o_putf (e_f1 19 3) e_okR 5)) t_235_5 (e_cg_putf (e_f1 19 3) e_okR)
noncomputable def n_235_1 : e_Y := u_ld f_okA f_l1 n_235_2
theorem t_235_1 : e_Sn 235 1 (e_un n_235_1) := u_ldAT f_l1_eq (s_aload (i := .aload_n 1) (len := 1) hq_235 (by decide +kernel) rfl (.inr ⟨1, rfl, rfl, rfl⟩) : e_Sn 235 1 (o_load e_okR 1 2)) t_235_2
noncomputable def n_235_0 : e_Y := u_ld f_okA f_l0 n_235_1
theorem t_235_0 : e_Sn 235 0 (e_un n_235_0) := u_ldAT f_l0_eq (s_aload (i := .aload_n 0) (len := 1) hq_235 (by decide +kernel) rfl (.inr ⟨0, rfl, rfl, rfl⟩) : e_Sn 235 0 (o_load e_okR 0 1)) t_235_1
noncomputable def e_tb_235 : e_X := (e_br 9 (e_lf 0 (e_un n_235_0)) (e_lf 9 (e_un n_235_9)))
theorem e_tk_235 : e_Tb 235 e_tb_235 := (e_brT (e_lfT t_235_0) (e_lfT t_235_9))
theorem hq_231 : (e_ml[231]?).map (·.2.1) = some prog_50_method_55_code := rfl
theorem ho_231 : (e_ml[231]?).map (·.1.cls) = some "java/util/ArrayList" := rfl
theorem hr_231 : (e_ml[231]?).map (·.2.2.2) = some (some (.object "java/util/Iterator")) := rfl
noncomputable def n_231_8 : e_Y := u_retA
theorem t_231_8 : e_Sn 231 8 (e_un n_231_8) := u_retAT (s_aret (.inl ⟨_, rfl⟩) hq_231 hr_231 (by decide +kernel) : e_Sn 231 8 (o_ret e_okR))
noncomputable def n_231_5 : e_Y := u_tab (o_callI 235 2 2 8)
theorem t_231_5 : e_Sn 231 5 (e_un n_231_5) := u_tabT (s_callI (index := 269) hq_231 ho_231 hy_235 hp_235 hc_235 hi_235 hd_235 (List.mem_of_getElem? (i := 2834) (by decide +kernel)) rfl rfl hs_235 (by decide +kernel) rfl : e_Sn 231 5 (o_callI 235 2 2 8))
noncomputable def n_231_4 : e_Y := u_ld f_okA f_l0 n_231_5
theorem t_231_4 : e_Sn 231 4 (e_un n_231_4) := u_ldAT f_l0_eq (s_aload (i := .aload_n 0) (len := 1) hq_231 (by decide +kernel) rfl (.inr ⟨0, rfl, rfl, rfl⟩) : e_Sn 231 4 (o_load e_okR 0 5)) t_231_5
noncomputable def n_231_3 : e_Y := u_old (o_dup 4) n_231_4
theorem t_231_3 : e_Sn 231 3 (e_un n_231_3) := u_oldT (s_dup hq_231 (by decide +kernel) rfl : e_Sn 231 3 (o_dup 4)) t_231_4 e_cg_dup
noncomputable def n_231_0 : e_Y := u_tab (o_new 19 4 ef_19 3)
theorem t_231_0 : e_Sn 231 0 (e_un n_231_0) := u_tabT (s_new (index := 267) (ci := 19) (N := 4) (C := er_19) (T := et_19) (ty0 := ey_19) (fv := eg_19) hq_231 ho_231 rfl ei_19 eo_19 (List.mem_of_getElem? (i := 2832) (by decide +kernel)) (List.mem_of_getElem? (i := 2833) (by decide +kernel)) (List.mem_of_getElem? (i := 181) (by decide +kernel)) eh_19 rfl (e_newrel ek_19) (by decide +kernel) rfl : e_Sn 231 0 (o_new 19 4 ef_19 3))
noncomputable def e_tb_231 : e_X := (e_br 3 (e_lf 0 (e_un n_231_0)) (e_br 8 (e_lf 3 (e_un n_231_3)) (e_lf 8 (e_un n_231_8))))
theorem e_tk_231 : e_Tb 231 e_tb_231 := (e_brT (e_lfT t_231_0) (e_brT (e_lfT t_231_3) (e_lfT t_231_8)))
theorem hq_145 : (e_ml[145]?).map (·.2.1) = some prog_14_method_43_code := rfl
theorem ho_145 : (e_ml[145]?).map (·.1.cls) = some "PlateroomprinterModel" := rfl
theorem hr_145 : (e_ml[145]?).map (·.2.2.2) = some (some .int) := rfl
noncomputable def n_145_38 : e_Y := u_retI
theorem t_145_38 : e_Sn 145 38 (e_un n_145_38) := u_retIT (s_iret hq_145 hr_145 (by decide +kernel) : e_Sn 145 38 (o_ret e_okI))
noncomputable def n_145_37 : e_Y := u_ald 0 (u_old (o_ald e_fcs 38) n_145_38) n_145_38
theorem t_145_37 : e_Sn 145 37 (e_un n_145_37) := u_aldT (s_iald hq_145 (by decide +kernel) rfl : e_Sn 145 37 (o_ald e_fcs 38)) t_145_38
noncomputable def n_145_36 : e_Y := u_ld f_okI f_l1 n_145_37
theorem t_145_36 : e_Sn 145 36 (e_un n_145_36) := u_ldIT f_l1_eq (s_iload (i := .iload_n 1) (len := 1) hq_145 (by decide +kernel) rfl (.inr ⟨1, rfl, rfl, rfl⟩) : e_Sn 145 36 (o_load e_okI 1 37)) t_145_37
noncomputable def n_145_33 : e_Y := u_getf 13 12 (u_old (o_getf (e_f1 13 12) 36) n_145_36) n_145_36
theorem t_145_33 : e_Sn 145 33 (e_un n_145_33) := u_getfT (s_getf (C := er_13) (T := et_13) (N := 13) (ref := "PlateroomprinterModel$Machine") (index := 215) (ci := 13) (k := 12) hq_145 ho_145 ⟨rfl, by decide, ei_13, (List.mem_of_getElem? (i := 1928) (by decide +kernel)), .inl rfl⟩ (by decide +kernel) rfl : e_Sn 145 33 (o_getf (e_f1 13 12) 36)) t_145_36
noncomputable def n_145_30 : e_Y := u_getf 12 1 (u_old (o_getf (e_f1 12 1) 33) n_145_33) n_145_33
theorem t_145_30 : e_Sn 145 30 (e_un n_145_30) := u_getfT (s_getf (C := er_12) (T := et_12) (N := 5) (ref := "PlateroomprinterModel") (index := 10) (ci := 12) (k := 1) hq_145 ho_145 ⟨rfl, by decide, ei_12, (List.mem_of_getElem? (i := 1959) (by decide +kernel)), .inl rfl⟩ (by decide +kernel) rfl : e_Sn 145 30 (o_getf (e_f1 12 1) 33)) t_145_33
noncomputable def n_145_29 : e_Y := u_ld f_okA f_l0 n_145_30
theorem t_145_29 : e_Sn 145 29 (e_un n_145_29) := u_ldAT f_l0_eq (s_aload (i := .aload_n 0) (len := 1) hq_145 (by decide +kernel) rfl (.inr ⟨0, rfl, rfl, rfl⟩) : e_Sn 145 29 (o_load e_okR 0 30)) t_145_30
noncomputable def n_145_26 : e_Y := n_145_38
theorem t_145_26 : e_Sn 145 26 (e_un n_145_26) := u_gotoT (s_goto (off := (12)) hq_145 (by decide +kernel) rfl : e_Sn 145 26 (o_goto 38)) t_145_38
noncomputable def n_145_25 : e_Y := u_push (.inl 2147483648) n_145_26
theorem t_145_25 : e_Sn 145 25 (e_un n_145_25) := u_pushT (s_iconst (n := (0)) hq_145 (by decide +kernel) rfl ⟨by decide +kernel, by decide +kernel⟩ : e_Sn 145 25 (o_push (.inl 2147483648) 26)) t_145_26
noncomputable def n_145_22 : e_Y := u_if y_ne0 (u_old2 (o_ifeq 29 25) 29 n_145_29 n_145_25) n_145_29 n_145_25
theorem t_145_22 : e_Sn 145 22 (e_un n_145_22) := u_ifeqT rfl (s_ifeq (off := (7)) hq_145 (by decide +kernel) rfl rfl : e_Sn 145 22 (o_ifeq 29 25)) t_145_29 t_145_25
noncomputable def n_145_19 : e_Y := u_callV 12 195 3 22 3 n_195_0 n_145_22
theorem t_145_19 : e_Sn 145 19 (e_un n_145_19) := u_callVT rfl (s_callV (ci := 12) (C := er_12) (T := et_12) (N := 5) (index := 148) hq_145 ho_145 hy_195 hp_195 hc_195 hi_195 hd_195 (List.mem_of_getElem? (i := 1992) (by decide +kernel)) hs_195 (List.mem_of_getElem? (i := 73) (by decide +kernel)) rfl (by decide +kernel) rfl : e_Sn 145 19 (o_callV (e_s1 12 195 3) 3 22)) t_195_0 t_145_22
noncomputable def n_145_18 : e_Y := u_push (.inl 2147483649) n_145_19
theorem t_145_18 : e_Sn 145 18 (e_un n_145_18) := u_pushT (s_iconst (n := (1)) hq_145 (by decide +kernel) rfl ⟨by decide +kernel, by decide +kernel⟩ : e_Sn 145 18 (o_push (.inl 2147483649) 19)) t_145_19
noncomputable def n_145_17 : e_Y := u_push (.inl 2147483648) n_145_18
theorem t_145_17 : e_Sn 145 17 (e_un n_145_17) := u_pushT (s_iconst (n := (0)) hq_145 (by decide +kernel) rfl ⟨by decide +kernel, by decide +kernel⟩ : e_Sn 145 17 (o_push (.inl 2147483648) 18)) t_145_18
noncomputable def n_145_14 : e_Y := n_145_18
theorem t_145_14 : e_Sn 145 14 (e_un n_145_14) := u_gotoT (s_goto (off := (4)) hq_145 (by decide +kernel) rfl : e_Sn 145 14 (o_goto 18)) t_145_18
noncomputable def n_145_13 : e_Y := u_push (.inl 2147483649) n_145_14
theorem t_145_13 : e_Sn 145 13 (e_un n_145_13) := u_pushT (s_iconst (n := (1)) hq_145 (by decide +kernel) rfl ⟨by decide +kernel, by decide +kernel⟩ : e_Sn 145 13 (o_push (.inl 2147483649) 14)) t_145_14
noncomputable def n_145_10 : e_Y := u_if y_ne0 (u_old2 (o_ifeq 13 17) 13 n_145_13 n_145_17) n_145_13 n_145_17
theorem t_145_10 : e_Sn 145 10 (e_un n_145_10) := u_ifeqT rfl (s_ifne (off := (7)) hq_145 (by decide +kernel) rfl rfl : e_Sn 145 10 (o_ifeq 13 17)) t_145_13 t_145_17
noncomputable def n_145_7 : e_Y := u_callS 162 6 25 3 n_162_0 n_145_10
theorem t_145_7 : e_Sn 145 7 (e_un n_145_7) := u_callST rfl (s_callS (index := 136) hq_145 ho_145 hy_162 hp_162 hc_162 hi_162 hd_162 (List.mem_of_getElem? (i := 1987) (by decide +kernel)) hs_162 (by decide +kernel) rfl : e_Sn 145 7 (o_callS 162 6 3 10)) t_162_0 t_145_10
noncomputable def n_145_4 : e_Y := u_push (e_L 9223372036854775860) n_145_7
theorem t_145_4 : e_Sn 145 4 (e_un n_145_4) := u_pushT (s_ldc2 (index := 140) (v := (52)) hq_145 ho_145 (List.mem_of_getElem? (i := 1990) (by decide +kernel)) (by decide +kernel) rfl ⟨by decide +kernel, by decide +kernel⟩ : e_Sn 145 4 (o_push (e_L 9223372036854775860) 7)) t_145_7
noncomputable def n_145_3 : e_Y := u_push (e_L 9223372036854775808) n_145_4
theorem t_145_3 : e_Sn 145 3 (e_un n_145_3) := u_pushT (s_lconst (n := 0) hq_145 (by decide +kernel) rfl ⟨by decide +kernel, by decide +kernel⟩ : e_Sn 145 3 (o_push (e_L 9223372036854775808) 4)) t_145_4
noncomputable def n_145_2 : e_Y := u_old (o_i2l 3) n_145_3
theorem t_145_2 : e_Sn 145 2 (e_un n_145_2) := u_oldT (s_i2l hq_145 (by decide +kernel) rfl : e_Sn 145 2 (o_i2l 3)) t_145_3 e_congr_i2l
noncomputable def n_145_1 : e_Y := u_ld f_okI f_l1 n_145_2
theorem t_145_1 : e_Sn 145 1 (e_un n_145_1) := u_ldIT f_l1_eq (s_iload (i := .iload_n 1) (len := 1) hq_145 (by decide +kernel) rfl (.inr ⟨1, rfl, rfl, rfl⟩) : e_Sn 145 1 (o_load e_okI 1 2)) t_145_2
noncomputable def n_145_0 : e_Y := u_ld f_okA f_l0 n_145_1
theorem t_145_0 : e_Sn 145 0 (e_un n_145_0) := u_ldAT f_l0_eq (s_aload (i := .aload_n 0) (len := 1) hq_145 (by decide +kernel) rfl (.inr ⟨0, rfl, rfl, rfl⟩) : e_Sn 145 0 (o_load e_okR 0 1)) t_145_1
noncomputable def e_tb_145 : e_X := (e_lf 0 (e_un n_145_0))
theorem e_tk_145 : e_Tb 145 e_tb_145 := (e_lfT t_145_0)
theorem hq_163 : (e_ml[163]?).map (·.2.1) = some prog_14_method_56_code := rfl
theorem ho_163 : (e_ml[163]?).map (·.1.cls) = some "PlateroomprinterModel" := rfl
theorem hr_163 : (e_ml[163]?).map (·.2.2.2) = some (some .boolean) := rfl
noncomputable def n_163_29 : e_Y := u_tab (o_ret e_okZ)
theorem t_163_29 : e_Sn 163 29 (e_un n_163_29) := u_tabT (s_zret hq_163 hr_163 (by decide +kernel) : e_Sn 163 29 (o_ret e_okZ))
noncomputable def n_163_28 : e_Y := u_push (.inl 2147483648) n_163_29
theorem t_163_28 : e_Sn 163 28 (e_un n_163_28) := u_pushT (s_iconst (n := (0)) hq_163 (by decide +kernel) rfl ⟨by decide +kernel, by decide +kernel⟩ : e_Sn 163 28 (o_push (.inl 2147483648) 29)) t_163_29
noncomputable def n_163_25 : e_Y := n_163_29
theorem t_163_25 : e_Sn 163 25 (e_un n_163_25) := u_gotoT (s_goto (off := (4)) hq_163 (by decide +kernel) rfl : e_Sn 163 25 (o_goto 29)) t_163_29
noncomputable def n_163_24 : e_Y := u_push (.inl 2147483649) n_163_25
theorem t_163_24 : e_Sn 163 24 (e_un n_163_24) := u_pushT (s_iconst (n := (1)) hq_163 (by decide +kernel) rfl ⟨by decide +kernel, by decide +kernel⟩ : e_Sn 163 24 (o_push (.inl 2147483649) 25)) t_163_25
noncomputable def n_163_21 : e_Y := u_if y_ne0 (u_old2 (o_ifeq 24 28) 24 n_163_24 n_163_28) n_163_24 n_163_28
theorem t_163_21 : e_Sn 163 21 (e_un n_163_21) := u_ifeqT rfl (s_ifne (off := (7)) hq_163 (by decide +kernel) rfl rfl : e_Sn 163 21 (o_ifeq 24 28)) t_163_24 t_163_28
noncomputable def n_163_18 : e_Y := u_callS 162 6 25 3 n_162_0 n_163_21
theorem t_163_18 : e_Sn 163 18 (e_un n_163_18) := u_callST rfl (s_callS (index := 136) hq_163 ho_163 hy_162 hp_162 hc_162 hi_162 hd_162 (List.mem_of_getElem? (i := 1987) (by decide +kernel)) hs_162 (by decide +kernel) rfl : e_Sn 163 18 (o_callS 162 6 3 21)) t_162_0 t_163_21
noncomputable def n_163_15 : e_Y := u_push (e_L 9223372036854775839) n_163_18
theorem t_163_15 : e_Sn 163 15 (e_un n_163_15) := u_pushT (s_ldc2 (index := 286) (v := (31)) hq_163 ho_163 (List.mem_of_getElem? (i := 3009) (by decide +kernel)) (by decide +kernel) rfl ⟨by decide +kernel, by decide +kernel⟩ : e_Sn 163 15 (o_push (e_L 9223372036854775839) 18)) t_163_18
noncomputable def n_163_14 : e_Y := u_push (e_L 9223372036854775808) n_163_15
theorem t_163_14 : e_Sn 163 14 (e_un n_163_14) := u_pushT (s_lconst (n := 0) hq_163 (by decide +kernel) rfl ⟨by decide +kernel, by decide +kernel⟩ : e_Sn 163 14 (o_push (e_L 9223372036854775808) 15)) t_163_15
noncomputable def n_163_13 : e_Y := u_old (o_i2l 14) n_163_14
theorem t_163_13 : e_Sn 163 13 (e_un n_163_13) := u_oldT (s_i2l hq_163 (by decide +kernel) rfl : e_Sn 163 13 (o_i2l 14)) t_163_14 e_congr_i2l
noncomputable def n_163_12 : e_Y := u_ld f_okI f_l1 n_163_13
theorem t_163_12 : e_Sn 163 12 (e_un n_163_12) := u_ldIT f_l1_eq (s_iload (i := .iload_n 1) (len := 1) hq_163 (by decide +kernel) rfl (.inr ⟨1, rfl, rfl, rfl⟩) : e_Sn 163 12 (o_load e_okI 1 13)) t_163_13
noncomputable def n_163_9 : e_Y := u_if y_ne0 (u_old2 (o_ifeq 24 12) 24 n_163_24 n_163_12) n_163_24 n_163_12
theorem t_163_9 : e_Sn 163 9 (e_un n_163_9) := u_ifeqT rfl (s_ifeq (off := (15)) hq_163 (by decide +kernel) rfl rfl : e_Sn 163 9 (o_ifeq 24 12)) t_163_24 t_163_12
noncomputable def n_163_6 : e_Y := u_callS 162 6 25 3 n_162_0 n_163_9
theorem t_163_6 : e_Sn 163 6 (e_un n_163_6) := u_callST rfl (s_callS (index := 136) hq_163 ho_163 hy_162 hp_162 hc_162 hi_162 hd_162 (List.mem_of_getElem? (i := 1987) (by decide +kernel)) hs_162 (by decide +kernel) rfl : e_Sn 163 6 (o_callS 162 6 3 9)) t_162_0 t_163_9
noncomputable def n_163_3 : e_Y := u_push (e_L 9223372036854775839) n_163_6
theorem t_163_3 : e_Sn 163 3 (e_un n_163_3) := u_pushT (s_ldc2 (index := 286) (v := (31)) hq_163 ho_163 (List.mem_of_getElem? (i := 3009) (by decide +kernel)) (by decide +kernel) rfl ⟨by decide +kernel, by decide +kernel⟩ : e_Sn 163 3 (o_push (e_L 9223372036854775839) 6)) t_163_6
noncomputable def n_163_2 : e_Y := u_push (e_L 9223372036854775808) n_163_3
theorem t_163_2 : e_Sn 163 2 (e_un n_163_2) := u_pushT (s_lconst (n := 0) hq_163 (by decide +kernel) rfl ⟨by decide +kernel, by decide +kernel⟩ : e_Sn 163 2 (o_push (e_L 9223372036854775808) 3)) t_163_3
noncomputable def n_163_1 : e_Y := u_old (o_i2l 2) n_163_2
theorem t_163_1 : e_Sn 163 1 (e_un n_163_1) := u_oldT (s_i2l hq_163 (by decide +kernel) rfl : e_Sn 163 1 (o_i2l 2)) t_163_2 e_congr_i2l
noncomputable def n_163_0 : e_Y := u_ld f_okI f_l0 n_163_1
theorem t_163_0 : e_Sn 163 0 (e_un n_163_0) := u_ldIT f_l0_eq (s_iload (i := .iload_n 0) (len := 1) hq_163 (by decide +kernel) rfl (.inr ⟨0, rfl, rfl, rfl⟩) : e_Sn 163 0 (o_load e_okI 0 1)) t_163_1
noncomputable def e_tb_163 : e_X := (e_lf 0 (e_un n_163_0))
theorem e_tk_163 : e_Tb 163 e_tb_163 := (e_lfT t_163_0)
theorem hq_146 : (e_ml[146]?).map (·.2.1) = some prog_14_method_69_code := rfl
theorem ho_146 : (e_ml[146]?).map (·.1.cls) = some "PlateroomprinterModel" := rfl
theorem hr_146 : (e_ml[146]?).map (·.2.2.2) = some (some .int) := rfl
noncomputable def n_146_33 : e_Y := u_retI
theorem t_146_33 : e_Sn 146 33 (e_un n_146_33) := u_retIT (s_iret hq_146 hr_146 (by decide +kernel) : e_Sn 146 33 (o_ret e_okI))
noncomputable def n_146_30 : e_Y := u_callS 136 4 23 2 n_136_0 n_146_33
theorem t_146_30 : e_Sn 146 30 (e_un n_146_30) := u_callST rfl (s_callS (index := 327) hq_146 ho_146 hy_136 hp_136 hc_136 hi_136 hd_136 (List.mem_of_getElem? (i := 3060) (by decide +kernel)) hs_136 (by decide +kernel) rfl : e_Sn 146 30 (o_callS 136 4 2 33)) t_136_0 t_146_33
noncomputable def n_146_29 : e_Y := u_bin a_iadd (u_old (o_iadd 30) n_146_30) n_146_30
theorem t_146_29 : e_Sn 146 29 (e_un n_146_29) := u_iaddT (s_iadd hq_146 (by decide +kernel) rfl : e_Sn 146 29 (o_iadd 30)) t_146_30
noncomputable def n_146_28 : e_Y := u_ld f_okI f_l1 n_146_29
theorem t_146_28 : e_Sn 146 28 (e_un n_146_28) := u_ldIT f_l1_eq (s_iload (i := .iload_n 1) (len := 1) hq_146 (by decide +kernel) rfl (.inr ⟨1, rfl, rfl, rfl⟩) : e_Sn 146 28 (o_load e_okI 1 29)) t_146_29
noncomputable def n_146_27 : e_Y := u_bin a_imul (u_old (o_imul 28) n_146_28) n_146_28
theorem t_146_27 : e_Sn 146 27 (e_un n_146_27) := u_imulT (s_imul hq_146 (by decide +kernel) rfl : e_Sn 146 27 (o_imul 28)) t_146_28
noncomputable def n_146_25 : e_Y := u_push (.inl 2147483680) n_146_27
theorem t_146_25 : e_Sn 146 25 (e_un n_146_25) := u_pushT (s_bipush (n := (32)) hq_146 (by decide +kernel) rfl ⟨by decide +kernel, by decide +kernel⟩ : e_Sn 146 25 (o_push (.inl 2147483680) 27)) t_146_27
noncomputable def n_146_24 : e_Y := u_ld f_okI f_l2 n_146_25
theorem t_146_24 : e_Sn 146 24 (e_un n_146_24) := u_ldIT f_l2_eq (s_iload (i := .iload_n 2) (len := 1) hq_146 (by decide +kernel) rfl (.inr ⟨2, rfl, rfl, rfl⟩) : e_Sn 146 24 (o_load e_okI 2 25)) t_146_25
noncomputable def n_146_21 : e_Y := u_getf 13 6 (u_old (o_getf (e_f1 13 6) 24) n_146_24) n_146_24
theorem t_146_21 : e_Sn 146 21 (e_un n_146_21) := u_getfT (s_getf (C := er_13) (T := et_13) (N := 13) (ref := "PlateroomprinterModel$Machine") (index := 324) (ci := 13) (k := 6) hq_146 ho_146 ⟨rfl, by decide, ei_13, (List.mem_of_getElem? (i := 1910) (by decide +kernel)), .inl rfl⟩ (by decide +kernel) rfl : e_Sn 146 21 (o_getf (e_f1 13 6) 24)) t_146_24
noncomputable def n_146_18 : e_Y := u_getf 12 1 (u_old (o_getf (e_f1 12 1) 21) n_146_21) n_146_21
theorem t_146_18 : e_Sn 146 18 (e_un n_146_18) := u_getfT (s_getf (C := er_12) (T := et_12) (N := 5) (ref := "PlateroomprinterModel") (index := 10) (ci := 12) (k := 1) hq_146 ho_146 ⟨rfl, by decide, ei_12, (List.mem_of_getElem? (i := 1959) (by decide +kernel)), .inl rfl⟩ (by decide +kernel) rfl : e_Sn 146 18 (o_getf (e_f1 12 1) 21)) t_146_21
noncomputable def n_146_17 : e_Y := u_ld f_okA f_l0 n_146_18
theorem t_146_17 : e_Sn 146 17 (e_un n_146_17) := u_ldAT f_l0_eq (s_aload (i := .aload_n 0) (len := 1) hq_146 (by decide +kernel) rfl (.inr ⟨0, rfl, rfl, rfl⟩) : e_Sn 146 17 (o_load e_okR 0 18)) t_146_18
noncomputable def n_146_14 : e_Y := n_146_33
theorem t_146_14 : e_Sn 146 14 (e_un n_146_14) := u_gotoT (s_goto (off := (19)) hq_146 (by decide +kernel) rfl : e_Sn 146 14 (o_goto 33)) t_146_33
noncomputable def n_146_13 : e_Y := u_push (.inl 2147483648) n_146_14
theorem t_146_13 : e_Sn 146 13 (e_un n_146_13) := u_pushT (s_iconst (n := (0)) hq_146 (by decide +kernel) rfl ⟨by decide +kernel, by decide +kernel⟩ : e_Sn 146 13 (o_push (.inl 2147483648) 14)) t_146_14
noncomputable def n_146_10 : e_Y := u_if y_ne0 (u_old2 (o_ifeq 17 13) 17 n_146_17 n_146_13) n_146_17 n_146_13
theorem t_146_10 : e_Sn 146 10 (e_un n_146_10) := u_ifeqT rfl (s_ifeq (off := (7)) hq_146 (by decide +kernel) rfl rfl : e_Sn 146 10 (o_ifeq 17 13)) t_146_17 t_146_13
noncomputable def n_146_7 : e_Y := u_callV 12 195 3 22 3 n_195_0 n_146_10
theorem t_146_7 : e_Sn 146 7 (e_un n_146_7) := u_callVT rfl (s_callV (ci := 12) (C := er_12) (T := et_12) (N := 5) (index := 148) hq_146 ho_146 hy_195 hp_195 hc_195 hi_195 hd_195 (List.mem_of_getElem? (i := 1992) (by decide +kernel)) hs_195 (List.mem_of_getElem? (i := 73) (by decide +kernel)) rfl (by decide +kernel) rfl : e_Sn 146 7 (o_callV (e_s1 12 195 3) 3 10)) t_195_0 t_146_10
noncomputable def n_146_6 : e_Y := u_push (.inl 2147483649) n_146_7
theorem t_146_6 : e_Sn 146 6 (e_un n_146_6) := u_pushT (s_iconst (n := (1)) hq_146 (by decide +kernel) rfl ⟨by decide +kernel, by decide +kernel⟩ : e_Sn 146 6 (o_push (.inl 2147483649) 7)) t_146_7
noncomputable def n_146_3 : e_Y := u_callS 163 2 21 2 n_163_0 n_146_6
theorem t_146_3 : e_Sn 146 3 (e_un n_146_3) := u_callST rfl (s_callS (index := 288) hq_146 ho_146 hy_163 hp_163 hc_163 hi_163 hd_163 (List.mem_of_getElem? (i := 3006) (by decide +kernel)) hs_163 (by decide +kernel) rfl : e_Sn 146 3 (o_callS 163 2 2 6)) t_163_0 t_146_6
noncomputable def n_146_2 : e_Y := u_ld f_okI f_l2 n_146_3
theorem t_146_2 : e_Sn 146 2 (e_un n_146_2) := u_ldIT f_l2_eq (s_iload (i := .iload_n 2) (len := 1) hq_146 (by decide +kernel) rfl (.inr ⟨2, rfl, rfl, rfl⟩) : e_Sn 146 2 (o_load e_okI 2 3)) t_146_3
noncomputable def n_146_1 : e_Y := u_ld f_okI f_l1 n_146_2
theorem t_146_1 : e_Sn 146 1 (e_un n_146_1) := u_ldIT f_l1_eq (s_iload (i := .iload_n 1) (len := 1) hq_146 (by decide +kernel) rfl (.inr ⟨1, rfl, rfl, rfl⟩) : e_Sn 146 1 (o_load e_okI 1 2)) t_146_2
noncomputable def n_146_0 : e_Y := u_ld f_okA f_l0 n_146_1
theorem t_146_0 : e_Sn 146 0 (e_un n_146_0) := u_ldAT f_l0_eq (s_aload (i := .aload_n 0) (len := 1) hq_146 (by decide +kernel) rfl (.inr ⟨0, rfl, rfl, rfl⟩) : e_Sn 146 0 (o_load e_okR 0 1)) t_146_1
noncomputable def e_tb_146 : e_X := (e_lf 0 (e_un n_146_0))
theorem e_tk_146 : e_Tb 146 e_tb_146 := (e_lfT t_146_0)
theorem hq_230 : (e_ml[230]?).map (·.2.1) = some prog_50_method_9_code := rfl
theorem ho_230 : (e_ml[230]?).map (·.1.cls) = some "java/util/ArrayList" := rfl
theorem hr_230 : (e_ml[230]?).map (·.2.2.2) = some (some .boolean) := rfl
noncomputable def n_230_12 : e_Y := u_tab (o_ret e_okZ)
theorem t_230_12 : e_Sn 230 12 (e_un n_230_12) := u_tabT (s_zret hq_230 hr_230 (by decide +kernel) : e_Sn 230 12 (o_ret e_okZ))
noncomputable def n_230_11 : e_Y := u_push (.inl 2147483648) n_230_12
theorem t_230_11 : e_Sn 230 11 (e_un n_230_11) := u_pushT (s_iconst (n := (0)) hq_230 (by decide +kernel) rfl ⟨by decide +kernel, by decide +kernel⟩ : e_Sn 230 11 (o_push (.inl 2147483648) 12)) t_230_12
noncomputable def n_230_8 : e_Y := n_230_12
theorem t_230_8 : e_Sn 230 8 (e_un n_230_8) := u_gotoT (s_goto (off := (4)) hq_230 (by decide +kernel) rfl : e_Sn 230 8 (o_goto 12)) t_230_12
noncomputable def n_230_7 : e_Y := u_push (.inl 2147483649) n_230_8
theorem t_230_7 : e_Sn 230 7 (e_un n_230_7) := u_pushT (s_iconst (n := (1)) hq_230 (by decide +kernel) rfl ⟨by decide +kernel, by decide +kernel⟩ : e_Sn 230 7 (o_push (.inl 2147483649) 8)) t_230_8
noncomputable def n_230_4 : e_Y := u_if y_ne0 (u_old2 (o_ifeq 7 11) 7 n_230_7 n_230_11) n_230_7 n_230_11
theorem t_230_4 : e_Sn 230 4 (e_un n_230_4) := u_ifeqT rfl (s_ifne (off := (7)) hq_230 (by decide +kernel) rfl rfl : e_Sn 230 4 (o_ifeq 7 11)) t_230_7 t_230_11
noncomputable def n_230_1 : e_Y := u_getf 18 1 (u_old (o_getf (e_f1 18 1) 4) n_230_4) n_230_4
theorem t_230_1 : e_Sn 230 1 (e_un n_230_1) := u_getfT (s_getf (C := er_18) (T := et_18) (N := 3) (ref := "java/util/ArrayList") (index := 48) (ci := 18) (k := 1) hq_230 ho_230 ⟨rfl, by decide, ei_18, (List.mem_of_getElem? (i := 1767) (by decide +kernel)), .inl rfl⟩ (by decide +kernel) rfl : e_Sn 230 1 (o_getf (e_f1 18 1) 4)) t_230_4
noncomputable def n_230_0 : e_Y := u_ld f_okA f_l0 n_230_1
theorem t_230_0 : e_Sn 230 0 (e_un n_230_0) := u_ldAT f_l0_eq (s_aload (i := .aload_n 0) (len := 1) hq_230 (by decide +kernel) rfl (.inr ⟨0, rfl, rfl, rfl⟩) : e_Sn 230 0 (o_load e_okR 0 1)) t_230_1
noncomputable def e_tb_230 : e_X := (e_lf 0 (e_un n_230_0))
theorem e_tk_230 : e_Tb 230 e_tb_230 := (e_lfT t_230_0)
theorem hq_149 : (e_ml[149]?).map (·.2.1) = some prog_14_method_28_code := rfl
theorem ho_149 : (e_ml[149]?).map (·.1.cls) = some "PlateroomprinterModel" := rfl
theorem hr_149 : (e_ml[149]?).map (·.2.2.2) = some (some .int) := rfl
noncomputable def n_149_40 : e_Y := u_retI
theorem t_149_40 : e_Sn 149 40 (e_un n_149_40) := u_retIT (s_iret hq_149 hr_149 (by decide +kernel) : e_Sn 149 40 (o_ret e_okI))
noncomputable def n_149_16 : e_Y := n_149_40
theorem t_149_16 : e_Sn 149 16 (e_un n_149_16) := u_gotoT (s_goto (off := (24)) hq_149 (by decide +kernel) rfl : e_Sn 149 16 (o_goto 40)) t_149_40
noncomputable def n_149_15 : e_Y := u_push (.inl 2147483648) n_149_16
theorem t_149_15 : e_Sn 149 15 (e_un n_149_15) := u_pushT (s_iconst (n := (0)) hq_149 (by decide +kernel) rfl ⟨by decide +kernel, by decide +kernel⟩ : e_Sn 149 15 (o_push (.inl 2147483648) 16)) t_149_16
noncomputable def n_149_12 : e_Y := u_if y_ne0 (u_old2 (o_ifeq 19 15) 19 (u_at 19) n_149_15) (u_at 19) n_149_15
theorem t_149_12 : e_Sn 149 12 (e_un n_149_12) := u_ifeqT rfl (s_ifeq (off := (7)) hq_149 (by decide +kernel) rfl rfl : e_Sn 149 12 (o_ifeq 19 15)) u_atT t_149_15
noncomputable def n_149_9 : e_Y := u_callV 12 195 3 22 3 n_195_0 n_149_12
theorem t_149_9 : e_Sn 149 9 (e_un n_149_9) := u_callVT rfl (s_callV (ci := 12) (C := er_12) (T := et_12) (N := 5) (index := 148) hq_149 ho_149 hy_195 hp_195 hc_195 hi_195 hd_195 (List.mem_of_getElem? (i := 1992) (by decide +kernel)) hs_195 (List.mem_of_getElem? (i := 73) (by decide +kernel)) rfl (by decide +kernel) rfl : e_Sn 149 9 (o_callV (e_s1 12 195 3) 3 12)) t_195_0 t_149_12
noncomputable def n_149_8 : e_Y := u_push (.inl 2147483649) n_149_9
theorem t_149_8 : e_Sn 149 8 (e_un n_149_8) := u_pushT (s_iconst (n := (1)) hq_149 (by decide +kernel) rfl ⟨by decide +kernel, by decide +kernel⟩ : e_Sn 149 8 (o_push (.inl 2147483649) 9)) t_149_9
noncomputable def n_149_5 : e_Y := u_callV 18 230 1 20 1 n_230_0 n_149_8
theorem t_149_5 : e_Sn 149 5 (e_un n_149_5) := u_callVT rfl (s_callV (ci := 18) (C := er_18) (T := et_18) (N := 3) (index := 151) hq_149 ho_149 hy_230 hp_230 hc_230 hi_230 hd_230 (List.mem_of_getElem? (i := 2013) (by decide +kernel)) hs_230 (List.mem_of_getElem? (i := 2015) (by decide +kernel)) rfl (by decide +kernel) rfl : e_Sn 149 5 (o_callV (e_s1 18 230 1) 1 8)) t_230_0 t_149_8
noncomputable def n_149_2 : e_Y := u_getf 12 2 (u_old (o_getf (e_f1 12 2) 5) n_149_5) n_149_5
theorem t_149_2 : e_Sn 149 2 (e_un n_149_2) := u_getfT (s_getf (C := er_12) (T := et_12) (N := 5) (ref := "PlateroomprinterModel") (index := 19) (ci := 12) (k := 2) hq_149 ho_149 ⟨rfl, by decide, ei_12, (List.mem_of_getElem? (i := 1960) (by decide +kernel)), .inl rfl⟩ (by decide +kernel) rfl : e_Sn 149 2 (o_getf (e_f1 12 2) 5)) t_149_5
noncomputable def n_149_1 : e_Y := u_ld f_okA f_l0 n_149_2
theorem t_149_1 : e_Sn 149 1 (e_un n_149_1) := u_ldAT f_l0_eq (s_aload (i := .aload_n 0) (len := 1) hq_149 (by decide +kernel) rfl (.inr ⟨0, rfl, rfl, rfl⟩) : e_Sn 149 1 (o_load e_okR 0 2)) t_149_2
noncomputable def n_149_0 : e_Y := u_ld f_okA f_l0 n_149_1
theorem t_149_0 : e_Sn 149 0 (e_un n_149_0) := u_ldAT f_l0_eq (s_aload (i := .aload_n 0) (len := 1) hq_149 (by decide +kernel) rfl (.inr ⟨0, rfl, rfl, rfl⟩) : e_Sn 149 0 (o_load e_okR 0 1)) t_149_1
noncomputable def e_tb_149 : e_X := (e_lf 0 (e_un n_149_0))
theorem e_tk_149 : e_Tb 149 e_tb_149 := (e_lfT t_149_0)
theorem hq_150 : (e_ml[150]?).map (·.2.1) = some prog_14_method_30_code := rfl
theorem ho_150 : (e_ml[150]?).map (·.1.cls) = some "PlateroomprinterModel" := rfl
theorem hr_150 : (e_ml[150]?).map (·.2.2.2) = some (some .int) := rfl
noncomputable def n_150_22 : e_Y := u_retI
theorem t_150_22 : e_Sn 150 22 (e_un n_150_22) := u_retIT (s_iret hq_150 hr_150 (by decide +kernel) : e_Sn 150 22 (o_ret e_okI))
noncomputable def n_150_21 : e_Y := u_ld f_okI f_l1 n_150_22
theorem t_150_21 : e_Sn 150 21 (e_un n_150_21) := u_ldIT f_l1_eq (s_iload (i := .iload_n 1) (len := 1) hq_150 (by decide +kernel) rfl (.inr ⟨1, rfl, rfl, rfl⟩) : e_Sn 150 21 (o_load e_okI 1 22)) t_150_22
noncomputable def n_150_20 : e_Y := u_old (o_ast 0 e_okI 21) n_150_21
theorem t_150_20 : e_Sn 150 20 (e_un n_150_20) := u_oldT (s_iast hq_150 (by decide +kernel) rfl : e_Sn 150 20 (o_ast 0 e_okI 21)) t_150_21 (e_cg_ast 0 e_okI)
noncomputable def n_150_19 : e_Y := u_ld f_okI f_l3 n_150_20
theorem t_150_19 : e_Sn 150 19 (e_un n_150_19) := u_ldIT f_l3_eq (s_iload (i := .iload_n 3) (len := 1) hq_150 (by decide +kernel) rfl (.inr ⟨3, rfl, rfl, rfl⟩) : e_Sn 150 19 (o_load e_okI 3 20)) t_150_20
noncomputable def n_150_18 : e_Y := u_push (.inl 2147483650) n_150_19
theorem t_150_18 : e_Sn 150 18 (e_un n_150_18) := u_pushT (s_iconst (n := (2)) hq_150 (by decide +kernel) rfl ⟨by decide +kernel, by decide +kernel⟩ : e_Sn 150 18 (o_push (.inl 2147483650) 19)) t_150_19
noncomputable def n_150_15 : e_Y := u_getf 12 3 (u_old (o_getf (e_f1 12 3) 18) n_150_18) n_150_18
theorem t_150_15 : e_Sn 150 15 (e_un n_150_15) := u_getfT (s_getf (C := er_12) (T := et_12) (N := 5) (ref := "PlateroomprinterModel") (index := 23) (ci := 12) (k := 3) hq_150 ho_150 ⟨rfl, by decide, ei_12, (List.mem_of_getElem? (i := 1961) (by decide +kernel)), .inl rfl⟩ (by decide +kernel) rfl : e_Sn 150 15 (o_getf (e_f1 12 3) 18)) t_150_18
noncomputable def n_150_14 : e_Y := u_ld f_okA f_l0 n_150_15
theorem t_150_14 : e_Sn 150 14 (e_un n_150_14) := u_ldAT f_l0_eq (s_aload (i := .aload_n 0) (len := 1) hq_150 (by decide +kernel) rfl (.inr ⟨0, rfl, rfl, rfl⟩) : e_Sn 150 14 (o_load e_okR 0 15)) t_150_15
noncomputable def n_150_13 : e_Y := u_old (o_ast 0 e_okI 14) n_150_14
theorem t_150_13 : e_Sn 150 13 (e_un n_150_13) := u_oldT (s_iast hq_150 (by decide +kernel) rfl : e_Sn 150 13 (o_ast 0 e_okI 14)) t_150_14 (e_cg_ast 0 e_okI)
noncomputable def n_150_12 : e_Y := u_ld f_okI f_l2 n_150_13
theorem t_150_12 : e_Sn 150 12 (e_un n_150_12) := u_ldIT f_l2_eq (s_iload (i := .iload_n 2) (len := 1) hq_150 (by decide +kernel) rfl (.inr ⟨2, rfl, rfl, rfl⟩) : e_Sn 150 12 (o_load e_okI 2 13)) t_150_13
noncomputable def n_150_11 : e_Y := u_push (.inl 2147483649) n_150_12
theorem t_150_11 : e_Sn 150 11 (e_un n_150_11) := u_pushT (s_iconst (n := (1)) hq_150 (by decide +kernel) rfl ⟨by decide +kernel, by decide +kernel⟩ : e_Sn 150 11 (o_push (.inl 2147483649) 12)) t_150_12
noncomputable def n_150_8 : e_Y := u_getf 12 3 (u_old (o_getf (e_f1 12 3) 11) n_150_11) n_150_11
theorem t_150_8 : e_Sn 150 8 (e_un n_150_8) := u_getfT (s_getf (C := er_12) (T := et_12) (N := 5) (ref := "PlateroomprinterModel") (index := 23) (ci := 12) (k := 3) hq_150 ho_150 ⟨rfl, by decide, ei_12, (List.mem_of_getElem? (i := 1961) (by decide +kernel)), .inl rfl⟩ (by decide +kernel) rfl : e_Sn 150 8 (o_getf (e_f1 12 3) 11)) t_150_11
noncomputable def n_150_7 : e_Y := u_ld f_okA f_l0 n_150_8
theorem t_150_7 : e_Sn 150 7 (e_un n_150_7) := u_ldAT f_l0_eq (s_aload (i := .aload_n 0) (len := 1) hq_150 (by decide +kernel) rfl (.inr ⟨0, rfl, rfl, rfl⟩) : e_Sn 150 7 (o_load e_okR 0 8)) t_150_8
noncomputable def n_150_6 : e_Y := u_old (o_ast 0 e_okI 7) n_150_7
theorem t_150_6 : e_Sn 150 6 (e_un n_150_6) := u_oldT (s_iast hq_150 (by decide +kernel) rfl : e_Sn 150 6 (o_ast 0 e_okI 7)) t_150_7 (e_cg_ast 0 e_okI)
noncomputable def n_150_5 : e_Y := u_ld f_okI f_l1 n_150_6
theorem t_150_5 : e_Sn 150 5 (e_un n_150_5) := u_ldIT f_l1_eq (s_iload (i := .iload_n 1) (len := 1) hq_150 (by decide +kernel) rfl (.inr ⟨1, rfl, rfl, rfl⟩) : e_Sn 150 5 (o_load e_okI 1 6)) t_150_6
noncomputable def n_150_4 : e_Y := u_push (.inl 2147483648) n_150_5
theorem t_150_4 : e_Sn 150 4 (e_un n_150_4) := u_pushT (s_iconst (n := (0)) hq_150 (by decide +kernel) rfl ⟨by decide +kernel, by decide +kernel⟩ : e_Sn 150 4 (o_push (.inl 2147483648) 5)) t_150_5
noncomputable def n_150_1 : e_Y := u_getf 12 3 (u_old (o_getf (e_f1 12 3) 4) n_150_4) n_150_4
theorem t_150_1 : e_Sn 150 1 (e_un n_150_1) := u_getfT (s_getf (C := er_12) (T := et_12) (N := 5) (ref := "PlateroomprinterModel") (index := 23) (ci := 12) (k := 3) hq_150 ho_150 ⟨rfl, by decide, ei_12, (List.mem_of_getElem? (i := 1961) (by decide +kernel)), .inl rfl⟩ (by decide +kernel) rfl : e_Sn 150 1 (o_getf (e_f1 12 3) 4)) t_150_4
noncomputable def n_150_0 : e_Y := u_ld f_okA f_l0 n_150_1
theorem t_150_0 : e_Sn 150 0 (e_un n_150_0) := u_ldAT f_l0_eq (s_aload (i := .aload_n 0) (len := 1) hq_150 (by decide +kernel) rfl (.inr ⟨0, rfl, rfl, rfl⟩) : e_Sn 150 0 (o_load e_okR 0 1)) t_150_1
noncomputable def e_tb_150 : e_X := (e_lf 0 (e_un n_150_0))
theorem e_tk_150 : e_Tb 150 e_tb_150 := (e_lfT t_150_0)
theorem hq_151 : (e_ml[151]?).map (·.2.1) = some prog_14_method_36_code := rfl
theorem ho_151 : (e_ml[151]?).map (·.1.cls) = some "PlateroomprinterModel" := rfl
theorem hr_151 : (e_ml[151]?).map (·.2.2.2) = some (some .int) := rfl
noncomputable def n_151_35 : e_Y := u_retI
theorem t_151_35 : e_Sn 151 35 (e_un n_151_35) := u_retIT (s_iret hq_151 hr_151 (by decide +kernel) : e_Sn 151 35 (o_ret e_okI))
noncomputable def n_151_34 : e_Y := u_ald 0 (u_old (o_ald e_fcs 35) n_151_35) n_151_35
theorem t_151_34 : e_Sn 151 34 (e_un n_151_34) := u_aldT (s_iald hq_151 (by decide +kernel) rfl : e_Sn 151 34 (o_ald e_fcs 35)) t_151_35
noncomputable def n_151_33 : e_Y := u_ld f_okI f_l1 n_151_34
theorem t_151_33 : e_Sn 151 33 (e_un n_151_33) := u_ldIT f_l1_eq (s_iload (i := .iload_n 1) (len := 1) hq_151 (by decide +kernel) rfl (.inr ⟨1, rfl, rfl, rfl⟩) : e_Sn 151 33 (o_load e_okI 1 34)) t_151_34
noncomputable def n_151_30 : e_Y := u_getf 12 3 (u_old (o_getf (e_f1 12 3) 33) n_151_33) n_151_33
theorem t_151_30 : e_Sn 151 30 (e_un n_151_30) := u_getfT (s_getf (C := er_12) (T := et_12) (N := 5) (ref := "PlateroomprinterModel") (index := 23) (ci := 12) (k := 3) hq_151 ho_151 ⟨rfl, by decide, ei_12, (List.mem_of_getElem? (i := 1961) (by decide +kernel)), .inl rfl⟩ (by decide +kernel) rfl : e_Sn 151 30 (o_getf (e_f1 12 3) 33)) t_151_33
noncomputable def n_151_29 : e_Y := u_ld f_okA f_l0 n_151_30
theorem t_151_29 : e_Sn 151 29 (e_un n_151_29) := u_ldAT f_l0_eq (s_aload (i := .aload_n 0) (len := 1) hq_151 (by decide +kernel) rfl (.inr ⟨0, rfl, rfl, rfl⟩) : e_Sn 151 29 (o_load e_okR 0 30)) t_151_30
noncomputable def n_151_26 : e_Y := n_151_35
theorem t_151_26 : e_Sn 151 26 (e_un n_151_26) := u_gotoT (s_goto (off := (9)) hq_151 (by decide +kernel) rfl : e_Sn 151 26 (o_goto 35)) t_151_35
noncomputable def n_151_25 : e_Y := u_push (.inl 2147483648) n_151_26
theorem t_151_25 : e_Sn 151 25 (e_un n_151_25) := u_pushT (s_iconst (n := (0)) hq_151 (by decide +kernel) rfl ⟨by decide +kernel, by decide +kernel⟩ : e_Sn 151 25 (o_push (.inl 2147483648) 26)) t_151_26
noncomputable def n_151_22 : e_Y := u_if y_ne0 (u_old2 (o_ifeq 29 25) 29 n_151_29 n_151_25) n_151_29 n_151_25
theorem t_151_22 : e_Sn 151 22 (e_un n_151_22) := u_ifeqT rfl (s_ifeq (off := (7)) hq_151 (by decide +kernel) rfl rfl : e_Sn 151 22 (o_ifeq 29 25)) t_151_29 t_151_25
noncomputable def n_151_19 : e_Y := u_callV 12 195 3 22 3 n_195_0 n_151_22
theorem t_151_19 : e_Sn 151 19 (e_un n_151_19) := u_callVT rfl (s_callV (ci := 12) (C := er_12) (T := et_12) (N := 5) (index := 148) hq_151 ho_151 hy_195 hp_195 hc_195 hi_195 hd_195 (List.mem_of_getElem? (i := 1992) (by decide +kernel)) hs_195 (List.mem_of_getElem? (i := 73) (by decide +kernel)) rfl (by decide +kernel) rfl : e_Sn 151 19 (o_callV (e_s1 12 195 3) 3 22)) t_195_0 t_151_22
noncomputable def n_151_18 : e_Y := u_push (.inl 2147483649) n_151_19
theorem t_151_18 : e_Sn 151 18 (e_un n_151_18) := u_pushT (s_iconst (n := (1)) hq_151 (by decide +kernel) rfl ⟨by decide +kernel, by decide +kernel⟩ : e_Sn 151 18 (o_push (.inl 2147483649) 19)) t_151_19
noncomputable def n_151_17 : e_Y := u_push (.inl 2147483648) n_151_18
theorem t_151_17 : e_Sn 151 17 (e_un n_151_17) := u_pushT (s_iconst (n := (0)) hq_151 (by decide +kernel) rfl ⟨by decide +kernel, by decide +kernel⟩ : e_Sn 151 17 (o_push (.inl 2147483648) 18)) t_151_18
noncomputable def n_151_14 : e_Y := n_151_18
theorem t_151_14 : e_Sn 151 14 (e_un n_151_14) := u_gotoT (s_goto (off := (4)) hq_151 (by decide +kernel) rfl : e_Sn 151 14 (o_goto 18)) t_151_18
noncomputable def n_151_13 : e_Y := u_push (.inl 2147483649) n_151_14
theorem t_151_13 : e_Sn 151 13 (e_un n_151_13) := u_pushT (s_iconst (n := (1)) hq_151 (by decide +kernel) rfl ⟨by decide +kernel, by decide +kernel⟩ : e_Sn 151 13 (o_push (.inl 2147483649) 14)) t_151_14
noncomputable def n_151_10 : e_Y := u_if y_ne0 (u_old2 (o_ifeq 13 17) 13 n_151_13 n_151_17) n_151_13 n_151_17
theorem t_151_10 : e_Sn 151 10 (e_un n_151_10) := u_ifeqT rfl (s_ifne (off := (7)) hq_151 (by decide +kernel) rfl rfl : e_Sn 151 10 (o_ifeq 13 17)) t_151_13 t_151_17
noncomputable def n_151_7 : e_Y := u_callS 162 6 25 3 n_162_0 n_151_10
theorem t_151_7 : e_Sn 151 7 (e_un n_151_7) := u_callST rfl (s_callS (index := 136) hq_151 ho_151 hy_162 hp_162 hc_162 hi_162 hd_162 (List.mem_of_getElem? (i := 1987) (by decide +kernel)) hs_162 (by decide +kernel) rfl : e_Sn 151 7 (o_callS 162 6 3 10)) t_162_0 t_151_10
noncomputable def n_151_4 : e_Y := u_push (e_L 9223372036854775810) n_151_7
theorem t_151_4 : e_Sn 151 4 (e_un n_151_4) := u_pushT (s_ldc2 (index := 69) (v := (2)) hq_151 ho_151 (List.mem_of_getElem? (i := 2377) (by decide +kernel)) (by decide +kernel) rfl ⟨by decide +kernel, by decide +kernel⟩ : e_Sn 151 4 (o_push (e_L 9223372036854775810) 7)) t_151_7
noncomputable def n_151_3 : e_Y := u_push (e_L 9223372036854775808) n_151_4
theorem t_151_3 : e_Sn 151 3 (e_un n_151_3) := u_pushT (s_lconst (n := 0) hq_151 (by decide +kernel) rfl ⟨by decide +kernel, by decide +kernel⟩ : e_Sn 151 3 (o_push (e_L 9223372036854775808) 4)) t_151_4
noncomputable def n_151_2 : e_Y := u_old (o_i2l 3) n_151_3
theorem t_151_2 : e_Sn 151 2 (e_un n_151_2) := u_oldT (s_i2l hq_151 (by decide +kernel) rfl : e_Sn 151 2 (o_i2l 3)) t_151_3 e_congr_i2l
noncomputable def n_151_1 : e_Y := u_ld f_okI f_l1 n_151_2
theorem t_151_1 : e_Sn 151 1 (e_un n_151_1) := u_ldIT f_l1_eq (s_iload (i := .iload_n 1) (len := 1) hq_151 (by decide +kernel) rfl (.inr ⟨1, rfl, rfl, rfl⟩) : e_Sn 151 1 (o_load e_okI 1 2)) t_151_2
noncomputable def n_151_0 : e_Y := u_ld f_okA f_l0 n_151_1
theorem t_151_0 : e_Sn 151 0 (e_un n_151_0) := u_ldAT f_l0_eq (s_aload (i := .aload_n 0) (len := 1) hq_151 (by decide +kernel) rfl (.inr ⟨0, rfl, rfl, rfl⟩) : e_Sn 151 0 (o_load e_okR 0 1)) t_151_1
noncomputable def e_tb_151 : e_X := (e_lf 0 (e_un n_151_0))
theorem e_tk_151 : e_Tb 151 e_tb_151 := (e_lfT t_151_0)
theorem hq_152 : (e_ml[152]?).map (·.2.1) = some prog_14_method_66_code := rfl
theorem ho_152 : (e_ml[152]?).map (·.1.cls) = some "PlateroomprinterModel" := rfl
theorem hr_152 : (e_ml[152]?).map (·.2.2.2) = some (some .int) := rfl
noncomputable def n_152_70 : e_Y := u_retI
theorem t_152_70 : e_Sn 152 70 (e_un n_152_70) := u_retIT (s_iret hq_152 hr_152 (by decide +kernel) : e_Sn 152 70 (o_ret e_okI))
noncomputable def n_152_61 : e_Y := n_152_70
theorem t_152_61 : e_Sn 152 61 (e_un n_152_61) := u_gotoT (s_goto (off := (9)) hq_152 (by decide +kernel) rfl : e_Sn 152 61 (o_goto 70)) t_152_70
noncomputable def n_152_60 : e_Y := u_push (.inl 2147483648) n_152_61
theorem t_152_60 : e_Sn 152 60 (e_un n_152_60) := u_pushT (s_iconst (n := (0)) hq_152 (by decide +kernel) rfl ⟨by decide +kernel, by decide +kernel⟩ : e_Sn 152 60 (o_push (.inl 2147483648) 61)) t_152_61
noncomputable def n_152_32 : e_Y := u_if y_ne0 (u_old2 (o_ifeq 35 60) 35 (u_at 35) n_152_60) (u_at 35) n_152_60
theorem t_152_32 : e_Sn 152 32 (e_un n_152_32) := u_ifeqT rfl (s_ifne (off := (28)) hq_152 (by decide +kernel) rfl rfl : e_Sn 152 32 (o_ifeq 35 60)) u_atT t_152_60
noncomputable def n_152_29 : e_Y := u_callV 12 195 3 22 3 n_195_0 n_152_32
theorem t_152_29 : e_Sn 152 29 (e_un n_152_29) := u_callVT rfl (s_callV (ci := 12) (C := er_12) (T := et_12) (N := 5) (index := 148) hq_152 ho_152 hy_195 hp_195 hc_195 hi_195 hd_195 (List.mem_of_getElem? (i := 1992) (by decide +kernel)) hs_195 (List.mem_of_getElem? (i := 73) (by decide +kernel)) rfl (by decide +kernel) rfl : e_Sn 152 29 (o_callV (e_s1 12 195 3) 3 32)) t_195_0 t_152_32
noncomputable def n_152_28 : e_Y := u_push (.inl 2147483649) n_152_29
theorem t_152_28 : e_Sn 152 28 (e_un n_152_28) := u_pushT (s_iconst (n := (1)) hq_152 (by decide +kernel) rfl ⟨by decide +kernel, by decide +kernel⟩ : e_Sn 152 28 (o_push (.inl 2147483649) 29)) t_152_29
noncomputable def n_152_24 : e_Y := n_152_28
theorem t_152_24 : e_Sn 152 24 (e_un n_152_24) := u_gotoT (s_goto (off := (4)) hq_152 (by decide +kernel) rfl : e_Sn 152 24 (o_goto 28)) t_152_28
noncomputable def n_152_23 : e_Y := u_push (.inl 2147483649) n_152_24
theorem t_152_23 : e_Sn 152 23 (e_un n_152_23) := u_pushT (s_iconst (n := (1)) hq_152 (by decide +kernel) rfl ⟨by decide +kernel, by decide +kernel⟩ : e_Sn 152 23 (o_push (.inl 2147483649) 24)) t_152_24
noncomputable def n_152_20 : e_Y := u_if y_ne0 (u_old2 (o_ifeq 23 27) 23 n_152_23 (u_at 27)) n_152_23 (u_at 27)
theorem t_152_20 : e_Sn 152 20 (e_un n_152_20) := u_ifeqT rfl (s_ifne (off := (7)) hq_152 (by decide +kernel) rfl rfl : e_Sn 152 20 (o_ifeq 23 27)) t_152_23 u_atT
noncomputable def n_152_17 : e_Y := u_callS 162 6 25 3 n_162_0 n_152_20
theorem t_152_17 : e_Sn 152 17 (e_un n_152_17) := u_callST rfl (s_callS (index := 136) hq_152 ho_152 hy_162 hp_162 hc_162 hi_162 hd_162 (List.mem_of_getElem? (i := 1987) (by decide +kernel)) hs_162 (by decide +kernel) rfl : e_Sn 152 17 (o_callS 162 6 3 20)) t_162_0 t_152_20
noncomputable def n_152_16 : e_Y := u_old (o_i2l 17) n_152_17
theorem t_152_16 : e_Sn 152 16 (e_un n_152_16) := u_oldT (s_i2l hq_152 (by decide +kernel) rfl : e_Sn 152 16 (o_i2l 17)) t_152_17 e_congr_i2l
noncomputable def n_152_15 : e_Y := u_bin a_isub (u_old (o_isub 16) n_152_16) n_152_16
theorem t_152_15 : e_Sn 152 15 (e_un n_152_15) := u_isubT (s_isub hq_152 (by decide +kernel) rfl : e_Sn 152 15 (o_isub 16)) t_152_16
noncomputable def n_152_14 : e_Y := u_push (.inl 2147483649) n_152_15
theorem t_152_14 : e_Sn 152 14 (e_un n_152_14) := u_pushT (s_iconst (n := (1)) hq_152 (by decide +kernel) rfl ⟨by decide +kernel, by decide +kernel⟩ : e_Sn 152 14 (o_push (.inl 2147483649) 15)) t_152_15
noncomputable def n_152_11 : e_Y := u_callV 18 234 1 20 1 n_234_0 n_152_14
theorem t_152_11 : e_Sn 152 11 (e_un n_152_11) := u_callVT rfl (s_callV (ci := 18) (C := er_18) (T := et_18) (N := 3) (index := 74) hq_152 ho_152 hy_234 hp_234 hc_234 hi_234 hd_234 (List.mem_of_getElem? (i := 2000) (by decide +kernel)) hs_234 (List.mem_of_getElem? (i := 2002) (by decide +kernel)) rfl (by decide +kernel) rfl : e_Sn 152 11 (o_callV (e_s1 18 234 1) 1 14)) t_234_0 t_152_14
noncomputable def n_152_8 : e_Y := u_getf 13 5 (u_old (o_getf (e_f1 13 5) 11) n_152_11) n_152_11
theorem t_152_8 : e_Sn 152 8 (e_un n_152_8) := u_getfT (s_getf (C := er_13) (T := et_13) (N := 13) (ref := "PlateroomprinterModel$Machine") (index := 311) (ci := 13) (k := 5) hq_152 ho_152 ⟨rfl, by decide, ei_13, (List.mem_of_getElem? (i := 1907) (by decide +kernel)), .inl rfl⟩ (by decide +kernel) rfl : e_Sn 152 8 (o_getf (e_f1 13 5) 11)) t_152_11
noncomputable def n_152_5 : e_Y := u_getf 12 1 (u_old (o_getf (e_f1 12 1) 8) n_152_8) n_152_8
theorem t_152_5 : e_Sn 152 5 (e_un n_152_5) := u_getfT (s_getf (C := er_12) (T := et_12) (N := 5) (ref := "PlateroomprinterModel") (index := 10) (ci := 12) (k := 1) hq_152 ho_152 ⟨rfl, by decide, ei_12, (List.mem_of_getElem? (i := 1959) (by decide +kernel)), .inl rfl⟩ (by decide +kernel) rfl : e_Sn 152 5 (o_getf (e_f1 12 1) 8)) t_152_8
noncomputable def n_152_4 : e_Y := u_ld f_okA f_l0 n_152_5
theorem t_152_4 : e_Sn 152 4 (e_un n_152_4) := u_ldAT f_l0_eq (s_aload (i := .aload_n 0) (len := 1) hq_152 (by decide +kernel) rfl (.inr ⟨0, rfl, rfl, rfl⟩) : e_Sn 152 4 (o_load e_okR 0 5)) t_152_5
noncomputable def n_152_3 : e_Y := u_push (e_L 9223372036854775808) n_152_4
theorem t_152_3 : e_Sn 152 3 (e_un n_152_3) := u_pushT (s_lconst (n := 0) hq_152 (by decide +kernel) rfl ⟨by decide +kernel, by decide +kernel⟩ : e_Sn 152 3 (o_push (e_L 9223372036854775808) 4)) t_152_4
noncomputable def n_152_2 : e_Y := u_old (o_i2l 3) n_152_3
theorem t_152_2 : e_Sn 152 2 (e_un n_152_2) := u_oldT (s_i2l hq_152 (by decide +kernel) rfl : e_Sn 152 2 (o_i2l 3)) t_152_3 e_congr_i2l
noncomputable def n_152_1 : e_Y := u_ld f_okI f_l1 n_152_2
theorem t_152_1 : e_Sn 152 1 (e_un n_152_1) := u_ldIT f_l1_eq (s_iload (i := .iload_n 1) (len := 1) hq_152 (by decide +kernel) rfl (.inr ⟨1, rfl, rfl, rfl⟩) : e_Sn 152 1 (o_load e_okI 1 2)) t_152_2
noncomputable def n_152_0 : e_Y := u_ld f_okA f_l0 n_152_1
theorem t_152_0 : e_Sn 152 0 (e_un n_152_0) := u_ldAT f_l0_eq (s_aload (i := .aload_n 0) (len := 1) hq_152 (by decide +kernel) rfl (.inr ⟨0, rfl, rfl, rfl⟩) : e_Sn 152 0 (o_load e_okR 0 1)) t_152_1
noncomputable def e_tb_152 : e_X := (e_lf 0 (e_un n_152_0))
theorem e_tk_152 : e_Tb 152 e_tb_152 := (e_lfT t_152_0)
theorem hq_153 : (e_ml[153]?).map (·.2.1) = some prog_14_method_64_code := rfl
theorem ho_153 : (e_ml[153]?).map (·.1.cls) = some "PlateroomprinterModel" := rfl
theorem hr_153 : (e_ml[153]?).map (·.2.2.2) = some (some .int) := rfl
noncomputable def n_153_15 : e_Y := u_retI
theorem t_153_15 : e_Sn 153 15 (e_un n_153_15) := u_retIT (s_iret hq_153 hr_153 (by decide +kernel) : e_Sn 153 15 (o_ret e_okI))
noncomputable def n_153_12 : e_Y := u_callV 18 234 1 20 1 n_234_0 n_153_15
theorem t_153_12 : e_Sn 153 12 (e_un n_153_12) := u_callVT rfl (s_callV (ci := 18) (C := er_18) (T := et_18) (N := 3) (index := 74) hq_153 ho_153 hy_234 hp_234 hc_234 hi_234 hd_234 (List.mem_of_getElem? (i := 2000) (by decide +kernel)) hs_234 (List.mem_of_getElem? (i := 2002) (by decide +kernel)) rfl (by decide +kernel) rfl : e_Sn 153 12 (o_callV (e_s1 18 234 1) 1 15)) t_234_0 t_153_15
noncomputable def n_153_9 : e_Y := u_getf 13 5 (u_old (o_getf (e_f1 13 5) 12) n_153_12) n_153_12
theorem t_153_9 : e_Sn 153 9 (e_un n_153_9) := u_getfT (s_getf (C := er_13) (T := et_13) (N := 13) (ref := "PlateroomprinterModel$Machine") (index := 311) (ci := 13) (k := 5) hq_153 ho_153 ⟨rfl, by decide, ei_13, (List.mem_of_getElem? (i := 1907) (by decide +kernel)), .inl rfl⟩ (by decide +kernel) rfl : e_Sn 153 9 (o_getf (e_f1 13 5) 12)) t_153_12
noncomputable def n_153_6 : e_Y := u_getf 12 1 (u_old (o_getf (e_f1 12 1) 9) n_153_9) n_153_9
theorem t_153_6 : e_Sn 153 6 (e_un n_153_6) := u_getfT (s_getf (C := er_12) (T := et_12) (N := 5) (ref := "PlateroomprinterModel") (index := 10) (ci := 12) (k := 1) hq_153 ho_153 ⟨rfl, by decide, ei_12, (List.mem_of_getElem? (i := 1959) (by decide +kernel)), .inl rfl⟩ (by decide +kernel) rfl : e_Sn 153 6 (o_getf (e_f1 12 1) 9)) t_153_9
noncomputable def n_153_5 : e_Y := u_ld f_okA f_l0 n_153_6
theorem t_153_5 : e_Sn 153 5 (e_un n_153_5) := u_ldAT f_l0_eq (s_aload (i := .aload_n 0) (len := 1) hq_153 (by decide +kernel) rfl (.inr ⟨0, rfl, rfl, rfl⟩) : e_Sn 153 5 (o_load e_okR 0 6)) t_153_6
noncomputable def n_153_2 : e_Y := u_old (o_putf (e_f1 12 0) e_okI 5) n_153_5
theorem t_153_2 : e_Sn 153 2 (e_un n_153_2) := u_oldT (s_putf (ty0 := ey_12) (ok := e_okI) (C := er_12) (T := et_12) (N := 5) (ref := "PlateroomprinterModel") (index := 124) (ci := 12) (k := 0) hq_153 ho_153 ⟨rfl, by decide, ei_12, (List.mem_of_getElem? (i := 1958) (by decide +kernel)), .inl rfl⟩ eo_12 en_12 e_oksI (.inl rfl) (by decide +kernel) rfl : e_Sn 153 2 (o_putf (e_f1 12 0) e_okI 5)) t_153_5 (e_cg_putf (e_f1 12 0) e_okI)
noncomputable def n_153_1 : e_Y := u_push (.inl 2147483648) n_153_2
theorem t_153_1 : e_Sn 153 1 (e_un n_153_1) := u_pushT (s_iconst (n := (0)) hq_153 (by decide +kernel) rfl ⟨by decide +kernel, by decide +kernel⟩ : e_Sn 153 1 (o_push (.inl 2147483648) 2)) t_153_2
noncomputable def n_153_0 : e_Y := u_ld f_okA f_l0 n_153_1
theorem t_153_0 : e_Sn 153 0 (e_un n_153_0) := u_ldAT f_l0_eq (s_aload (i := .aload_n 0) (len := 1) hq_153 (by decide +kernel) rfl (.inr ⟨0, rfl, rfl, rfl⟩) : e_Sn 153 0 (o_load e_okR 0 1)) t_153_1
noncomputable def e_tb_153 : e_X := (e_lf 0 (e_un n_153_0))
theorem e_tk_153 : e_Tb 153 e_tb_153 := (e_lfT t_153_0)
theorem hq_154 : (e_ml[154]?).map (·.2.1) = some prog_14_method_55_code := rfl
theorem ho_154 : (e_ml[154]?).map (·.1.cls) = some "PlateroomprinterModel" := rfl
theorem hr_154 : (e_ml[154]?).map (·.2.2.2) = some (some .int) := rfl
noncomputable def n_154_60 : e_Y := u_retI
theorem t_154_60 : e_Sn 154 60 (e_un n_154_60) := u_retIT (s_iret hq_154 hr_154 (by decide +kernel) : e_Sn 154 60 (o_ret e_okI))
noncomputable def n_154_57 : e_Y := u_callV 12 155 4 23 3 n_155_0 n_154_60
theorem t_154_57 : e_Sn 154 57 (e_un n_154_57) := u_callVT rfl (s_callV (ci := 12) (C := er_12) (T := et_12) (N := 5) (index := 283) hq_154 ho_154 hy_155 hp_155 hc_155 hi_155 hd_155 (List.mem_of_getElem? (i := 2998) (by decide +kernel)) hs_155 (List.mem_of_getElem? (i := 130) (by decide +kernel)) rfl (by decide +kernel) rfl : e_Sn 154 57 (o_callV (e_s1 12 155 4) 3 60)) t_155_0 t_154_60
noncomputable def n_154_56 : e_Y := u_ld f_okI f_l2 n_154_57
theorem t_154_56 : e_Sn 154 56 (e_un n_154_56) := u_ldIT f_l2_eq (s_iload (i := .iload_n 2) (len := 1) hq_154 (by decide +kernel) rfl (.inr ⟨2, rfl, rfl, rfl⟩) : e_Sn 154 56 (o_load e_okI 2 57)) t_154_57
noncomputable def n_154_55 : e_Y := u_ld f_okI f_l1 n_154_56
theorem t_154_55 : e_Sn 154 55 (e_un n_154_55) := u_ldIT f_l1_eq (s_iload (i := .iload_n 1) (len := 1) hq_154 (by decide +kernel) rfl (.inr ⟨1, rfl, rfl, rfl⟩) : e_Sn 154 55 (o_load e_okI 1 56)) t_154_56
noncomputable def n_154_54 : e_Y := u_ld f_okA f_l0 n_154_55
theorem t_154_54 : e_Sn 154 54 (e_un n_154_54) := u_ldAT f_l0_eq (s_aload (i := .aload_n 0) (len := 1) hq_154 (by decide +kernel) rfl (.inr ⟨0, rfl, rfl, rfl⟩) : e_Sn 154 54 (o_load e_okR 0 55)) t_154_55
noncomputable def n_154_51 : e_Y := n_154_60
theorem t_154_51 : e_Sn 154 51 (e_un n_154_51) := u_gotoT (s_goto (off := (9)) hq_154 (by decide +kernel) rfl : e_Sn 154 51 (o_goto 60)) t_154_60
noncomputable def n_154_50 : e_Y := u_push (.inl 2147483648) n_154_51
theorem t_154_50 : e_Sn 154 50 (e_un n_154_50) := u_pushT (s_iconst (n := (0)) hq_154 (by decide +kernel) rfl ⟨by decide +kernel, by decide +kernel⟩ : e_Sn 154 50 (o_push (.inl 2147483648) 51)) t_154_51
noncomputable def n_154_47 : e_Y := u_if y_ne0 (u_old2 (o_ifeq 54 50) 54 n_154_54 n_154_50) n_154_54 n_154_50
theorem t_154_47 : e_Sn 154 47 (e_un n_154_47) := u_ifeqT rfl (s_ifeq (off := (7)) hq_154 (by decide +kernel) rfl rfl : e_Sn 154 47 (o_ifeq 54 50)) t_154_54 t_154_50
noncomputable def n_154_44 : e_Y := u_callV 12 187 3 22 3 n_187_0 n_154_47
theorem t_154_44 : e_Sn 154 44 (e_un n_154_44) := u_callVT rfl (s_callV (ci := 12) (C := er_12) (T := et_12) (N := 5) (index := 128) hq_154 ho_154 hy_187 hp_187 hc_187 hi_187 hd_187 (List.mem_of_getElem? (i := 1996) (by decide +kernel)) hs_187 (List.mem_of_getElem? (i := 74) (by decide +kernel)) rfl (by decide +kernel) rfl : e_Sn 154 44 (o_callV (e_s1 12 187 3) 3 47)) t_187_0 t_154_47
noncomputable def n_154_43 : e_Y := u_push (.inl 2147483650) n_154_44
theorem t_154_43 : e_Sn 154 43 (e_un n_154_43) := u_pushT (s_iconst (n := (2)) hq_154 (by decide +kernel) rfl ⟨by decide +kernel, by decide +kernel⟩ : e_Sn 154 43 (o_push (.inl 2147483650) 44)) t_154_44
noncomputable def n_154_42 : e_Y := u_push (.inl 2147483648) n_154_43
theorem t_154_42 : e_Sn 154 42 (e_un n_154_42) := u_pushT (s_iconst (n := (0)) hq_154 (by decide +kernel) rfl ⟨by decide +kernel, by decide +kernel⟩ : e_Sn 154 42 (o_push (.inl 2147483648) 43)) t_154_43
noncomputable def n_154_39 : e_Y := n_154_43
theorem t_154_39 : e_Sn 154 39 (e_un n_154_39) := u_gotoT (s_goto (off := (4)) hq_154 (by decide +kernel) rfl : e_Sn 154 39 (o_goto 43)) t_154_43
noncomputable def n_154_38 : e_Y := u_push (.inl 2147483649) n_154_39
theorem t_154_38 : e_Sn 154 38 (e_un n_154_38) := u_pushT (s_iconst (n := (1)) hq_154 (by decide +kernel) rfl ⟨by decide +kernel, by decide +kernel⟩ : e_Sn 154 38 (o_push (.inl 2147483649) 39)) t_154_39
noncomputable def n_154_35 : e_Y := u_if y_ne0 (u_old2 (o_ifeq 38 42) 38 n_154_38 n_154_42) n_154_38 n_154_42
theorem t_154_35 : e_Sn 154 35 (e_un n_154_35) := u_ifeqT rfl (s_ifne (off := (7)) hq_154 (by decide +kernel) rfl rfl : e_Sn 154 35 (o_ifeq 38 42)) t_154_38 t_154_42
noncomputable def n_154_32 : e_Y := u_callS 162 6 25 3 n_162_0 n_154_35
theorem t_154_32 : e_Sn 154 32 (e_un n_154_32) := u_callST rfl (s_callS (index := 136) hq_154 ho_154 hy_162 hp_162 hc_162 hi_162 hd_162 (List.mem_of_getElem? (i := 1987) (by decide +kernel)) hs_162 (by decide +kernel) rfl : e_Sn 154 32 (o_callS 162 6 3 35)) t_162_0 t_154_35
noncomputable def n_154_29 : e_Y := u_push (e_L 9223372036854775810) n_154_32
theorem t_154_29 : e_Sn 154 29 (e_un n_154_29) := u_pushT (s_ldc2 (index := 69) (v := (2)) hq_154 ho_154 (List.mem_of_getElem? (i := 2377) (by decide +kernel)) (by decide +kernel) rfl ⟨by decide +kernel, by decide +kernel⟩ : e_Sn 154 29 (o_push (e_L 9223372036854775810) 32)) t_154_32
noncomputable def n_154_28 : e_Y := u_push (e_L 9223372036854775808) n_154_29
theorem t_154_28 : e_Sn 154 28 (e_un n_154_28) := u_pushT (s_lconst (n := 0) hq_154 (by decide +kernel) rfl ⟨by decide +kernel, by decide +kernel⟩ : e_Sn 154 28 (o_push (e_L 9223372036854775808) 29)) t_154_29
noncomputable def n_154_27 : e_Y := u_old (o_i2l 28) n_154_28
theorem t_154_27 : e_Sn 154 27 (e_un n_154_27) := u_oldT (s_i2l hq_154 (by decide +kernel) rfl : e_Sn 154 27 (o_i2l 28)) t_154_28 e_congr_i2l
noncomputable def n_154_26 : e_Y := u_ld f_okI f_l2 n_154_27
theorem t_154_26 : e_Sn 154 26 (e_un n_154_26) := u_ldIT f_l2_eq (s_iload (i := .iload_n 2) (len := 1) hq_154 (by decide +kernel) rfl (.inr ⟨2, rfl, rfl, rfl⟩) : e_Sn 154 26 (o_load e_okI 2 27)) t_154_27
noncomputable def n_154_25 : e_Y := u_ld f_okA f_l0 n_154_26
theorem t_154_25 : e_Sn 154 25 (e_un n_154_25) := u_ldAT f_l0_eq (s_aload (i := .aload_n 0) (len := 1) hq_154 (by decide +kernel) rfl (.inr ⟨0, rfl, rfl, rfl⟩) : e_Sn 154 25 (o_load e_okR 0 26)) t_154_26
noncomputable def n_154_22 : e_Y := u_if y_ne0 (u_old2 (o_ifeq 25 50) 25 n_154_25 n_154_50) n_154_25 n_154_50
theorem t_154_22 : e_Sn 154 22 (e_un n_154_22) := u_ifeqT rfl (s_ifne (off := (28)) hq_154 (by decide +kernel) rfl rfl : e_Sn 154 22 (o_ifeq 25 50)) t_154_25 t_154_50
noncomputable def n_154_19 : e_Y := u_callV 12 195 3 22 3 n_195_0 n_154_22
theorem t_154_19 : e_Sn 154 19 (e_un n_154_19) := u_callVT rfl (s_callV (ci := 12) (C := er_12) (T := et_12) (N := 5) (index := 148) hq_154 ho_154 hy_195 hp_195 hc_195 hi_195 hd_195 (List.mem_of_getElem? (i := 1992) (by decide +kernel)) hs_195 (List.mem_of_getElem? (i := 73) (by decide +kernel)) rfl (by decide +kernel) rfl : e_Sn 154 19 (o_callV (e_s1 12 195 3) 3 22)) t_195_0 t_154_22
noncomputable def n_154_18 : e_Y := u_push (.inl 2147483649) n_154_19
theorem t_154_18 : e_Sn 154 18 (e_un n_154_18) := u_pushT (s_iconst (n := (1)) hq_154 (by decide +kernel) rfl ⟨by decide +kernel, by decide +kernel⟩ : e_Sn 154 18 (o_push (.inl 2147483649) 19)) t_154_19
noncomputable def n_154_17 : e_Y := u_push (.inl 2147483648) n_154_18
theorem t_154_17 : e_Sn 154 17 (e_un n_154_17) := u_pushT (s_iconst (n := (0)) hq_154 (by decide +kernel) rfl ⟨by decide +kernel, by decide +kernel⟩ : e_Sn 154 17 (o_push (.inl 2147483648) 18)) t_154_18
noncomputable def n_154_14 : e_Y := n_154_18
theorem t_154_14 : e_Sn 154 14 (e_un n_154_14) := u_gotoT (s_goto (off := (4)) hq_154 (by decide +kernel) rfl : e_Sn 154 14 (o_goto 18)) t_154_18
noncomputable def n_154_13 : e_Y := u_push (.inl 2147483649) n_154_14
theorem t_154_13 : e_Sn 154 13 (e_un n_154_13) := u_pushT (s_iconst (n := (1)) hq_154 (by decide +kernel) rfl ⟨by decide +kernel, by decide +kernel⟩ : e_Sn 154 13 (o_push (.inl 2147483649) 14)) t_154_14
noncomputable def n_154_10 : e_Y := u_if y_ne0 (u_old2 (o_ifeq 13 17) 13 n_154_13 n_154_17) n_154_13 n_154_17
theorem t_154_10 : e_Sn 154 10 (e_un n_154_10) := u_ifeqT rfl (s_ifne (off := (7)) hq_154 (by decide +kernel) rfl rfl : e_Sn 154 10 (o_ifeq 13 17)) t_154_13 t_154_17
noncomputable def n_154_7 : e_Y := u_callS 162 6 25 3 n_162_0 n_154_10
theorem t_154_7 : e_Sn 154 7 (e_un n_154_7) := u_callST rfl (s_callS (index := 136) hq_154 ho_154 hy_162 hp_162 hc_162 hi_162 hd_162 (List.mem_of_getElem? (i := 1987) (by decide +kernel)) hs_162 (by decide +kernel) rfl : e_Sn 154 7 (o_callS 162 6 3 10)) t_162_0 t_154_10
noncomputable def n_154_4 : e_Y := u_push (e_L 9223372036854775812) n_154_7
theorem t_154_4 : e_Sn 154 4 (e_un n_154_4) := u_pushT (s_ldc2 (index := 281) (v := (4)) hq_154 ho_154 (List.mem_of_getElem? (i := 2997) (by decide +kernel)) (by decide +kernel) rfl ⟨by decide +kernel, by decide +kernel⟩ : e_Sn 154 4 (o_push (e_L 9223372036854775812) 7)) t_154_7
noncomputable def n_154_3 : e_Y := u_push (e_L 9223372036854775808) n_154_4
theorem t_154_3 : e_Sn 154 3 (e_un n_154_3) := u_pushT (s_lconst (n := 0) hq_154 (by decide +kernel) rfl ⟨by decide +kernel, by decide +kernel⟩ : e_Sn 154 3 (o_push (e_L 9223372036854775808) 4)) t_154_4
noncomputable def n_154_2 : e_Y := u_old (o_i2l 3) n_154_3
theorem t_154_2 : e_Sn 154 2 (e_un n_154_2) := u_oldT (s_i2l hq_154 (by decide +kernel) rfl : e_Sn 154 2 (o_i2l 3)) t_154_3 e_congr_i2l
noncomputable def n_154_1 : e_Y := u_ld f_okI f_l1 n_154_2
theorem t_154_1 : e_Sn 154 1 (e_un n_154_1) := u_ldIT f_l1_eq (s_iload (i := .iload_n 1) (len := 1) hq_154 (by decide +kernel) rfl (.inr ⟨1, rfl, rfl, rfl⟩) : e_Sn 154 1 (o_load e_okI 1 2)) t_154_2
noncomputable def n_154_0 : e_Y := u_ld f_okA f_l0 n_154_1
theorem t_154_0 : e_Sn 154 0 (e_un n_154_0) := u_ldAT f_l0_eq (s_aload (i := .aload_n 0) (len := 1) hq_154 (by decide +kernel) rfl (.inr ⟨0, rfl, rfl, rfl⟩) : e_Sn 154 0 (o_load e_okR 0 1)) t_154_1
noncomputable def e_tb_154 : e_X := (e_lf 0 (e_un n_154_0))
theorem e_tk_154 : e_Tb 154 e_tb_154 := (e_lfT t_154_0)
theorem hq_156 : (e_ml[156]?).map (·.2.1) = some prog_14_method_32_code := rfl
theorem ho_156 : (e_ml[156]?).map (·.1.cls) = some "PlateroomprinterModel" := rfl
theorem hr_156 : (e_ml[156]?).map (·.2.2.2) = some (some .int) := rfl
noncomputable def n_156_33 : e_Y := u_retI
theorem t_156_33 : e_Sn 156 33 (e_un n_156_33) := u_retIT (s_iret hq_156 hr_156 (by decide +kernel) : e_Sn 156 33 (o_ret e_okI))
noncomputable def n_156_32 : e_Y := u_ld f_okI f_l1 n_156_33
theorem t_156_32 : e_Sn 156 32 (e_un n_156_32) := u_ldIT f_l1_eq (s_iload (i := .iload_n 1) (len := 1) hq_156 (by decide +kernel) rfl (.inr ⟨1, rfl, rfl, rfl⟩) : e_Sn 156 32 (o_load e_okI 1 33)) t_156_33
noncomputable def n_156_31 : e_Y := u_pop n_156_32
theorem t_156_31 : e_Sn 156 31 (e_un n_156_31) := u_popT (s_pop hq_156 (by decide +kernel) rfl : e_Sn 156 31 (o_pop 32)) t_156_32
noncomputable def n_156_28 : e_Y := u_callV 12 150 4 23 4 n_150_0 n_156_31
theorem t_156_28 : e_Sn 156 28 (e_un n_156_28) := u_callVT rfl (s_callV (ci := 12) (C := er_12) (T := et_12) (N := 5) (index := 177) hq_156 ho_156 hy_150 hp_150 hc_150 hi_150 hd_150 (List.mem_of_getElem? (i := 2891) (by decide +kernel)) hs_150 (List.mem_of_getElem? (i := 121) (by decide +kernel)) rfl (by decide +kernel) rfl : e_Sn 156 28 (o_callV (e_s1 12 150 4) 4 31)) t_150_0 t_156_31
noncomputable def n_156_27 : e_Y := u_push (.inl 2147483647) n_156_28
theorem t_156_27 : e_Sn 156 27 (e_un n_156_27) := u_pushT (s_iconst (n := (-1)) hq_156 (by decide +kernel) rfl ⟨by decide +kernel, by decide +kernel⟩ : e_Sn 156 27 (o_push (.inl 2147483647) 28)) t_156_28
noncomputable def n_156_26 : e_Y := u_push (.inl 2147483647) n_156_27
theorem t_156_26 : e_Sn 156 26 (e_un n_156_26) := u_pushT (s_iconst (n := (-1)) hq_156 (by decide +kernel) rfl ⟨by decide +kernel, by decide +kernel⟩ : e_Sn 156 26 (o_push (.inl 2147483647) 27)) t_156_27
noncomputable def n_156_25 : e_Y := u_push (.inl 2147483648) n_156_26
theorem t_156_25 : e_Sn 156 25 (e_un n_156_25) := u_pushT (s_iconst (n := (0)) hq_156 (by decide +kernel) rfl ⟨by decide +kernel, by decide +kernel⟩ : e_Sn 156 25 (o_push (.inl 2147483648) 26)) t_156_26
noncomputable def n_156_24 : e_Y := u_ld f_okA f_l0 n_156_25
theorem t_156_24 : e_Sn 156 24 (e_un n_156_24) := u_ldAT f_l0_eq (s_aload (i := .aload_n 0) (len := 1) hq_156 (by decide +kernel) rfl (.inr ⟨0, rfl, rfl, rfl⟩) : e_Sn 156 24 (o_load e_okR 0 25)) t_156_25
noncomputable def n_156_21 : e_Y := u_old (o_putf (e_f1 12 1) e_okR 24) n_156_24
theorem t_156_21 : e_Sn 156 21 (e_un n_156_21) := u_oldT (s_putf (ty0 := ey_12) (ok := e_okR) (C := er_12) (T := et_12) (N := 5) (ref := "PlateroomprinterModel") (index := 10) (ci := 12) (k := 1) hq_156 ho_156 ⟨rfl, by decide, ei_12, (List.mem_of_getElem? (i := 1959) (by decide +kernel)), .inl rfl⟩ eo_12 en_12 e_oksR (.inl rfl) (by decide +kernel) rfl : e_Sn 156 21 (o_putf (e_f1 12 1) e_okR 24)) t_156_24 (e_cg_putf (e_f1 12 1) e_okR)
noncomputable def n_156_18 : e_Y := u_tab (o_callI 204 2 1 21)
theorem t_156_18 : e_Sn 156 18 (e_un n_156_18) := u_tabT (s_callI (index := 9) hq_156 ho_156 hy_204 hp_204 hc_204 hi_204 hd_204 (List.mem_of_getElem? (i := 1746) (by decide +kernel)) rfl rfl hs_204 (by decide +kernel) rfl : e_Sn 156 18 (o_callI 204 2 1 21))
noncomputable def n_156_17 : e_Y := u_old (o_dup 18) n_156_18
theorem t_156_17 : e_Sn 156 17 (e_un n_156_17) := u_oldT (s_dup hq_156 (by decide +kernel) rfl : e_Sn 156 17 (o_dup 18)) t_156_18 e_cg_dup
noncomputable def n_156_14 : e_Y := u_tab (o_new 13 13 ef_13 17)
theorem t_156_14 : e_Sn 156 14 (e_un n_156_14) := u_tabT (s_new (index := 7) (ci := 13) (N := 13) (C := er_13) (T := et_13) (ty0 := ey_13) (fv := eg_13) hq_156 ho_156 rfl ei_13 eo_13 (List.mem_of_getElem? (i := 1744) (by decide +kernel)) (List.mem_of_getElem? (i := 1745) (by decide +kernel)) (List.mem_of_getElem? (i := 152) (by decide +kernel)) eh_13 rfl (e_newrel ek_13) (by decide +kernel) rfl : e_Sn 156 14 (o_new 13 13 ef_13 17))
noncomputable def n_156_13 : e_Y := u_ld f_okA f_l0 n_156_14
theorem t_156_13 : e_Sn 156 13 (e_un n_156_13) := u_ldAT f_l0_eq (s_aload (i := .aload_n 0) (len := 1) hq_156 (by decide +kernel) rfl (.inr ⟨0, rfl, rfl, rfl⟩) : e_Sn 156 13 (o_load e_okR 0 14)) t_156_14
noncomputable def n_156_12 : e_Y := u_st f_okI f_s1 n_156_13
theorem t_156_12 : e_Sn 156 12 (e_un n_156_12) := u_stIT (fun _ _ _ => f_s1_eq) (s_istore (i := .istore_n 1) (len := 1) hq_156 (by decide +kernel) rfl (.inr ⟨1, rfl, rfl, rfl⟩) : e_Sn 156 12 (o_store e_okI 1 13)) t_156_13
noncomputable def n_156_9 : e_Y := u_getf 13 8 (u_old (o_getf (e_f1 13 8) 12) n_156_12) n_156_12
theorem t_156_9 : e_Sn 156 9 (e_un n_156_9) := u_getfT (s_getf (C := er_13) (T := et_13) (N := 13) (ref := "PlateroomprinterModel$Machine") (index := 181) (ci := 13) (k := 8) hq_156 ho_156 ⟨rfl, by decide, ei_13, (List.mem_of_getElem? (i := 1915) (by decide +kernel)), .inl rfl⟩ (by decide +kernel) rfl : e_Sn 156 9 (o_getf (e_f1 13 8) 12)) t_156_12
noncomputable def n_156_6 : e_Y := u_getf 12 1 (u_old (o_getf (e_f1 12 1) 9) n_156_9) n_156_9
theorem t_156_6 : e_Sn 156 6 (e_un n_156_6) := u_getfT (s_getf (C := er_12) (T := et_12) (N := 5) (ref := "PlateroomprinterModel") (index := 10) (ci := 12) (k := 1) hq_156 ho_156 ⟨rfl, by decide, ei_12, (List.mem_of_getElem? (i := 1959) (by decide +kernel)), .inl rfl⟩ (by decide +kernel) rfl : e_Sn 156 6 (o_getf (e_f1 12 1) 9)) t_156_9
noncomputable def n_156_5 : e_Y := u_ld f_okA f_l0 n_156_6
theorem t_156_5 : e_Sn 156 5 (e_un n_156_5) := u_ldAT f_l0_eq (s_aload (i := .aload_n 0) (len := 1) hq_156 (by decide +kernel) rfl (.inr ⟨0, rfl, rfl, rfl⟩) : e_Sn 156 5 (o_load e_okR 0 6)) t_156_6
noncomputable def n_156_2 : e_Y := u_old (o_putf (e_f1 12 0) e_okI 5) n_156_5
theorem t_156_2 : e_Sn 156 2 (e_un n_156_2) := u_oldT (s_putf (ty0 := ey_12) (ok := e_okI) (C := er_12) (T := et_12) (N := 5) (ref := "PlateroomprinterModel") (index := 124) (ci := 12) (k := 0) hq_156 ho_156 ⟨rfl, by decide, ei_12, (List.mem_of_getElem? (i := 1958) (by decide +kernel)), .inl rfl⟩ eo_12 en_12 e_oksI (.inl rfl) (by decide +kernel) rfl : e_Sn 156 2 (o_putf (e_f1 12 0) e_okI 5)) t_156_5 (e_cg_putf (e_f1 12 0) e_okI)
noncomputable def n_156_1 : e_Y := u_push (.inl 2147483648) n_156_2
theorem t_156_1 : e_Sn 156 1 (e_un n_156_1) := u_pushT (s_iconst (n := (0)) hq_156 (by decide +kernel) rfl ⟨by decide +kernel, by decide +kernel⟩ : e_Sn 156 1 (o_push (.inl 2147483648) 2)) t_156_2
noncomputable def n_156_0 : e_Y := u_ld f_okA f_l0 n_156_1
theorem t_156_0 : e_Sn 156 0 (e_un n_156_0) := u_ldAT f_l0_eq (s_aload (i := .aload_n 0) (len := 1) hq_156 (by decide +kernel) rfl (.inr ⟨0, rfl, rfl, rfl⟩) : e_Sn 156 0 (o_load e_okR 0 1)) t_156_1
noncomputable def e_tb_156 : e_X := (e_br 17 (e_lf 0 (e_un n_156_0)) (e_br 21 (e_lf 17 (e_un n_156_17)) (e_lf 21 (e_un n_156_21))))
theorem e_tk_156 : e_Tb 156 e_tb_156 := (e_brT (e_lfT t_156_0) (e_brT (e_lfT t_156_17) (e_lfT t_156_21)))
theorem hq_166 : (e_ml[166]?).map (·.2.1) = some prog_14_method_49_code := rfl
theorem ho_166 : (e_ml[166]?).map (·.1.cls) = some "PlateroomprinterModel" := rfl
theorem hr_166 : (e_ml[166]?).map (·.2.2.2) = some (some .boolean) := rfl
noncomputable def n_166_24 : e_Y := u_tab (o_ret e_okZ)
theorem t_166_24 : e_Sn 166 24 (e_un n_166_24) := u_tabT (s_zret hq_166 hr_166 (by decide +kernel) : e_Sn 166 24 (o_ret e_okZ))
noncomputable def n_166_20 : e_Y := n_166_24
theorem t_166_20 : e_Sn 166 20 (e_un n_166_20) := u_gotoT (s_goto (off := (4)) hq_166 (by decide +kernel) rfl : e_Sn 166 20 (o_goto 24)) t_166_24
noncomputable def n_166_19 : e_Y := u_push (.inl 2147483649) n_166_20
theorem t_166_19 : e_Sn 166 19 (e_un n_166_19) := u_pushT (s_iconst (n := (1)) hq_166 (by decide +kernel) rfl ⟨by decide +kernel, by decide +kernel⟩ : e_Sn 166 19 (o_push (.inl 2147483649) 20)) t_166_20
noncomputable def n_166_16 : e_Y := u_if y_ne0 (u_old2 (o_ifeq 19 23) 19 n_166_19 (u_at 23)) n_166_19 (u_at 23)
theorem t_166_16 : e_Sn 166 16 (e_un n_166_16) := u_ifeqT rfl (s_ifne (off := (7)) hq_166 (by decide +kernel) rfl rfl : e_Sn 166 16 (o_ifeq 19 23)) t_166_19 u_atT
noncomputable def n_166_13 : e_Y := u_callS 162 6 25 3 n_162_0 n_166_16
theorem t_166_13 : e_Sn 166 13 (e_un n_166_13) := u_callST rfl (s_callS (index := 136) hq_166 ho_166 hy_162 hp_162 hc_162 hi_162 hd_162 (List.mem_of_getElem? (i := 1987) (by decide +kernel)) hs_162 (by decide +kernel) rfl : e_Sn 166 13 (o_callS 162 6 3 16)) t_162_0 t_166_16
noncomputable def n_166_12 : e_Y := u_old (o_i2l 13) n_166_13
theorem t_166_12 : e_Sn 166 12 (e_un n_166_12) := u_oldT (s_i2l hq_166 (by decide +kernel) rfl : e_Sn 166 12 (o_i2l 13)) t_166_13 e_congr_i2l
noncomputable def n_166_11 : e_Y := u_bin a_isub (u_old (o_isub 12) n_166_12) n_166_12
theorem t_166_11 : e_Sn 166 11 (e_un n_166_11) := u_isubT (s_isub hq_166 (by decide +kernel) rfl : e_Sn 166 11 (o_isub 12)) t_166_12
noncomputable def n_166_10 : e_Y := u_push (.inl 2147483649) n_166_11
theorem t_166_10 : e_Sn 166 10 (e_un n_166_10) := u_pushT (s_iconst (n := (1)) hq_166 (by decide +kernel) rfl ⟨by decide +kernel, by decide +kernel⟩ : e_Sn 166 10 (o_push (.inl 2147483649) 11)) t_166_11
noncomputable def n_166_7 : e_Y := u_callV 18 234 1 20 1 n_234_0 n_166_10
theorem t_166_7 : e_Sn 166 7 (e_un n_166_7) := u_callVT rfl (s_callV (ci := 18) (C := er_18) (T := et_18) (N := 3) (index := 74) hq_166 ho_166 hy_234 hp_234 hc_234 hi_234 hd_234 (List.mem_of_getElem? (i := 2000) (by decide +kernel)) hs_234 (List.mem_of_getElem? (i := 2002) (by decide +kernel)) rfl (by decide +kernel) rfl : e_Sn 166 7 (o_callV (e_s1 18 234 1) 1 10)) t_234_0 t_166_10
noncomputable def n_166_4 : e_Y := u_callV 12 184 1 20 1 n_184_0 n_166_7
theorem t_166_4 : e_Sn 166 4 (e_un n_166_4) := u_callVT rfl (s_callV (ci := 12) (C := er_12) (T := et_12) (N := 5) (index := 261) hq_166 ho_166 hy_184 hp_184 hc_184 hi_184 hd_184 (List.mem_of_getElem? (i := 2977) (by decide +kernel)) hs_184 (List.mem_of_getElem? (i := 127) (by decide +kernel)) rfl (by decide +kernel) rfl : e_Sn 166 4 (o_callV (e_s1 12 184 1) 1 7)) t_184_0 t_166_7
noncomputable def n_166_3 : e_Y := u_ld f_okA f_l0 n_166_4
theorem t_166_3 : e_Sn 166 3 (e_un n_166_3) := u_ldAT f_l0_eq (s_aload (i := .aload_n 0) (len := 1) hq_166 (by decide +kernel) rfl (.inr ⟨0, rfl, rfl, rfl⟩) : e_Sn 166 3 (o_load e_okR 0 4)) t_166_4
noncomputable def n_166_2 : e_Y := u_push (e_L 9223372036854775808) n_166_3
theorem t_166_2 : e_Sn 166 2 (e_un n_166_2) := u_pushT (s_lconst (n := 0) hq_166 (by decide +kernel) rfl ⟨by decide +kernel, by decide +kernel⟩ : e_Sn 166 2 (o_push (e_L 9223372036854775808) 3)) t_166_3
noncomputable def n_166_1 : e_Y := u_old (o_i2l 2) n_166_2
theorem t_166_1 : e_Sn 166 1 (e_un n_166_1) := u_oldT (s_i2l hq_166 (by decide +kernel) rfl : e_Sn 166 1 (o_i2l 2)) t_166_2 e_congr_i2l
noncomputable def n_166_0 : e_Y := u_ld f_okI f_l1 n_166_1
theorem t_166_0 : e_Sn 166 0 (e_un n_166_0) := u_ldIT f_l1_eq (s_iload (i := .iload_n 1) (len := 1) hq_166 (by decide +kernel) rfl (.inr ⟨1, rfl, rfl, rfl⟩) : e_Sn 166 0 (o_load e_okI 1 1)) t_166_1
noncomputable def e_tb_166 : e_X := (e_lf 0 (e_un n_166_0))
theorem e_tk_166 : e_Tb 166 e_tb_166 := (e_lfT t_166_0)
theorem hq_165 : (e_ml[165]?).map (·.2.1) = some prog_14_method_52_code := rfl
theorem ho_165 : (e_ml[165]?).map (·.1.cls) = some "PlateroomprinterModel" := rfl
theorem hr_165 : (e_ml[165]?).map (·.2.2.2) = some (some .boolean) := rfl
noncomputable def n_165_42 : e_Y := u_tab (o_ret e_okZ)
theorem t_165_42 : e_Sn 165 42 (e_un n_165_42) := u_tabT (s_zret hq_165 hr_165 (by decide +kernel) : e_Sn 165 42 (o_ret e_okZ))
noncomputable def n_165_38 : e_Y := n_165_42
theorem t_165_38 : e_Sn 165 38 (e_un n_165_38) := u_gotoT (s_goto (off := (4)) hq_165 (by decide +kernel) rfl : e_Sn 165 38 (o_goto 42)) t_165_42
noncomputable def n_165_37 : e_Y := u_push (.inl 2147483649) n_165_38
theorem t_165_37 : e_Sn 165 37 (e_un n_165_37) := u_pushT (s_iconst (n := (1)) hq_165 (by decide +kernel) rfl ⟨by decide +kernel, by decide +kernel⟩ : e_Sn 165 37 (o_push (.inl 2147483649) 38)) t_165_38
noncomputable def n_165_5 : e_Y := u_if y_ne0 (u_old2 (o_ifeq 8 37) 8 (u_at 8) n_165_37) (u_at 8) n_165_37
theorem t_165_5 : e_Sn 165 5 (e_un n_165_5) := u_ifeqT rfl (s_ifne (off := (32)) hq_165 (by decide +kernel) rfl rfl : e_Sn 165 5 (o_ifeq 8 37)) u_atT t_165_37
noncomputable def n_165_2 : e_Y := u_callV 12 166 2 21 2 n_166_0 n_165_5
theorem t_165_2 : e_Sn 165 2 (e_un n_165_2) := u_callVT rfl (s_callV (ci := 12) (C := er_12) (T := et_12) (N := 5) (index := 268) hq_165 ho_165 hy_166 hp_166 hc_166 hi_166 hd_166 (List.mem_of_getElem? (i := 2973) (by decide +kernel)) hs_166 (List.mem_of_getElem? (i := 126) (by decide +kernel)) rfl (by decide +kernel) rfl : e_Sn 165 2 (o_callV (e_s1 12 166 2) 2 5)) t_166_0 t_165_5
noncomputable def n_165_1 : e_Y := u_ld f_okI f_l1 n_165_2
theorem t_165_1 : e_Sn 165 1 (e_un n_165_1) := u_ldIT f_l1_eq (s_iload (i := .iload_n 1) (len := 1) hq_165 (by decide +kernel) rfl (.inr ⟨1, rfl, rfl, rfl⟩) : e_Sn 165 1 (o_load e_okI 1 2)) t_165_2
noncomputable def n_165_0 : e_Y := u_ld f_okA f_l0 n_165_1
theorem t_165_0 : e_Sn 165 0 (e_un n_165_0) := u_ldAT f_l0_eq (s_aload (i := .aload_n 0) (len := 1) hq_165 (by decide +kernel) rfl (.inr ⟨0, rfl, rfl, rfl⟩) : e_Sn 165 0 (o_load e_okR 0 1)) t_165_1
noncomputable def e_tb_165 : e_X := (e_lf 0 (e_un n_165_0))
theorem e_tk_165 : e_Tb 165 e_tb_165 := (e_lfT t_165_0)
theorem hq_157 : (e_ml[157]?).map (·.2.1) = some prog_14_method_63_code := rfl
theorem ho_157 : (e_ml[157]?).map (·.1.cls) = some "PlateroomprinterModel" := rfl
theorem hr_157 : (e_ml[157]?).map (·.2.2.2) = some (some .int) := rfl
noncomputable def n_157_63 : e_Y := u_retI
theorem t_157_63 : e_Sn 157 63 (e_un n_157_63) := u_retIT (s_iret hq_157 hr_157 (by decide +kernel) : e_Sn 157 63 (o_ret e_okI))
noncomputable def n_157_62 : e_Y := u_push (.inl 2147483648) n_157_63
theorem t_157_62 : e_Sn 157 62 (e_un n_157_62) := u_pushT (s_iconst (n := (0)) hq_157 (by decide +kernel) rfl ⟨by decide +kernel, by decide +kernel⟩ : e_Sn 157 62 (o_push (.inl 2147483648) 63)) t_157_63
noncomputable def n_157_28 : e_Y := u_if y_ne0 (u_old2 (o_ifeq 31 62) 31 (u_at 31) n_157_62) (u_at 31) n_157_62
theorem t_157_28 : e_Sn 157 28 (e_un n_157_28) := u_ifeqT rfl (s_ifne (off := (34)) hq_157 (by decide +kernel) rfl rfl : e_Sn 157 28 (o_ifeq 31 62)) u_atT t_157_62
noncomputable def n_157_25 : e_Y := u_callV 12 195 3 22 3 n_195_0 n_157_28
theorem t_157_25 : e_Sn 157 25 (e_un n_157_25) := u_callVT rfl (s_callV (ci := 12) (C := er_12) (T := et_12) (N := 5) (index := 148) hq_157 ho_157 hy_195 hp_195 hc_195 hi_195 hd_195 (List.mem_of_getElem? (i := 1992) (by decide +kernel)) hs_195 (List.mem_of_getElem? (i := 73) (by decide +kernel)) rfl (by decide +kernel) rfl : e_Sn 157 25 (o_callV (e_s1 12 195 3) 3 28)) t_195_0 t_157_28
noncomputable def n_157_24 : e_Y := u_push (.inl 2147483649) n_157_25
theorem t_157_24 : e_Sn 157 24 (e_un n_157_24) := u_pushT (s_iconst (n := (1)) hq_157 (by decide +kernel) rfl ⟨by decide +kernel, by decide +kernel⟩ : e_Sn 157 24 (o_push (.inl 2147483649) 25)) t_157_25
noncomputable def n_157_20 : e_Y := n_157_24
theorem t_157_20 : e_Sn 157 20 (e_un n_157_20) := u_gotoT (s_goto (off := (4)) hq_157 (by decide +kernel) rfl : e_Sn 157 20 (o_goto 24)) t_157_24
noncomputable def n_157_19 : e_Y := u_push (.inl 2147483649) n_157_20
theorem t_157_19 : e_Sn 157 19 (e_un n_157_19) := u_pushT (s_iconst (n := (1)) hq_157 (by decide +kernel) rfl ⟨by decide +kernel, by decide +kernel⟩ : e_Sn 157 19 (o_push (.inl 2147483649) 20)) t_157_20
noncomputable def n_157_7 : e_Y := u_if y_ne0 (u_old2 (o_ifeq 10 19) 10 (u_at 10) n_157_19) (u_at 10) n_157_19
theorem t_157_7 : e_Sn 157 7 (e_un n_157_7) := u_ifeqT rfl (s_ifne (off := (12)) hq_157 (by decide +kernel) rfl rfl : e_Sn 157 7 (o_ifeq 10 19)) u_atT t_157_19
noncomputable def n_157_4 : e_Y := u_callV 12 165 3 22 3 n_165_0 n_157_7
theorem t_157_4 : e_Sn 157 4 (e_un n_157_4) := u_callVT rfl (s_callV (ci := 12) (C := er_12) (T := et_12) (N := 5) (index := 275) hq_157 ho_157 hy_165 hp_165 hc_165 hi_165 hd_165 (List.mem_of_getElem? (i := 2989) (by decide +kernel)) hs_165 (List.mem_of_getElem? (i := 129) (by decide +kernel)) rfl (by decide +kernel) rfl : e_Sn 157 4 (o_callV (e_s1 12 165 3) 3 7)) t_165_0 t_157_7
noncomputable def n_157_3 : e_Y := u_ld f_okI f_l2 n_157_4
theorem t_157_3 : e_Sn 157 3 (e_un n_157_3) := u_ldIT f_l2_eq (s_iload (i := .iload_n 2) (len := 1) hq_157 (by decide +kernel) rfl (.inr ⟨2, rfl, rfl, rfl⟩) : e_Sn 157 3 (o_load e_okI 2 4)) t_157_4
noncomputable def n_157_2 : e_Y := u_ld f_okI f_l1 n_157_3
theorem t_157_2 : e_Sn 157 2 (e_un n_157_2) := u_ldIT f_l1_eq (s_iload (i := .iload_n 1) (len := 1) hq_157 (by decide +kernel) rfl (.inr ⟨1, rfl, rfl, rfl⟩) : e_Sn 157 2 (o_load e_okI 1 3)) t_157_3
noncomputable def n_157_1 : e_Y := u_ld f_okA f_l0 n_157_2
theorem t_157_1 : e_Sn 157 1 (e_un n_157_1) := u_ldAT f_l0_eq (s_aload (i := .aload_n 0) (len := 1) hq_157 (by decide +kernel) rfl (.inr ⟨0, rfl, rfl, rfl⟩) : e_Sn 157 1 (o_load e_okR 0 2)) t_157_2
noncomputable def n_157_0 : e_Y := u_ld f_okA f_l0 n_157_1
theorem t_157_0 : e_Sn 157 0 (e_un n_157_0) := u_ldAT f_l0_eq (s_aload (i := .aload_n 0) (len := 1) hq_157 (by decide +kernel) rfl (.inr ⟨0, rfl, rfl, rfl⟩) : e_Sn 157 0 (o_load e_okR 0 1)) t_157_1
noncomputable def e_tb_157 : e_X := (e_lf 0 (e_un n_157_0))
theorem e_tk_157 : e_Tb 157 e_tb_157 := (e_lfT t_157_0)
theorem hq_167 : (e_ml[167]?).map (·.2.1) = some prog_14_method_25_code := rfl
theorem ho_167 : (e_ml[167]?).map (·.1.cls) = some "PlateroomprinterModel" := rfl
theorem hr_167 : (e_ml[167]?).map (·.2.2.2) = some (some .boolean) := rfl
noncomputable def n_167_107 : e_Y := u_tab (o_ret e_okZ)
theorem t_167_107 : e_Sn 167 107 (e_un n_167_107) := u_tabT (s_zret hq_167 hr_167 (by decide +kernel) : e_Sn 167 107 (o_ret e_okZ))
noncomputable def n_167_106 : e_Y := u_push (.inl 2147483649) n_167_107
theorem t_167_106 : e_Sn 167 106 (e_un n_167_106) := u_pushT (s_iconst (n := (1)) hq_167 (by decide +kernel) rfl ⟨by decide +kernel, by decide +kernel⟩ : e_Sn 167 106 (o_push (.inl 2147483649) 107)) t_167_107
noncomputable def n_167_105 : e_Y := u_tab (o_ret e_okZ)
theorem t_167_105 : e_Sn 167 105 (e_un n_167_105) := u_tabT (s_zret hq_167 hr_167 (by decide +kernel) : e_Sn 167 105 (o_ret e_okZ))
noncomputable def n_167_104 : e_Y := u_push (.inl 2147483648) n_167_105
theorem t_167_104 : e_Sn 167 104 (e_un n_167_104) := u_pushT (s_iconst (n := (0)) hq_167 (by decide +kernel) rfl ⟨by decide +kernel, by decide +kernel⟩ : e_Sn 167 104 (o_push (.inl 2147483648) 105)) t_167_105
noncomputable def n_167_101 : e_Y := n_167_105
theorem t_167_101 : e_Sn 167 101 (e_un n_167_101) := u_gotoT (s_goto (off := (4)) hq_167 (by decide +kernel) rfl : e_Sn 167 101 (o_goto 105)) t_167_105
noncomputable def n_167_100 : e_Y := u_push (.inl 2147483649) n_167_101
theorem t_167_100 : e_Sn 167 100 (e_un n_167_100) := u_pushT (s_iconst (n := (1)) hq_167 (by decide +kernel) rfl ⟨by decide +kernel, by decide +kernel⟩ : e_Sn 167 100 (o_push (.inl 2147483649) 101)) t_167_101
noncomputable def n_167_97 : e_Y := u_if y_ne0 (u_old2 (o_ifeq 104 100) 104 n_167_104 n_167_100) n_167_104 n_167_100
theorem t_167_97 : e_Sn 167 97 (e_un n_167_97) := u_ifeqT rfl (s_ifeq (off := (7)) hq_167 (by decide +kernel) rfl rfl : e_Sn 167 97 (o_ifeq 104 100)) t_167_104 t_167_100
noncomputable def n_167_96 : e_Y := u_ld f_okI f_l1 n_167_97
theorem t_167_96 : e_Sn 167 96 (e_un n_167_96) := u_ldIT f_l1_eq (s_iload (i := .iload_n 1) (len := 1) hq_167 (by decide +kernel) rfl (.inr ⟨1, rfl, rfl, rfl⟩) : e_Sn 167 96 (o_load e_okI 1 97)) t_167_97
noncomputable def n_167_95 : e_Y := u_tab (o_ret e_okZ)
theorem t_167_95 : e_Sn 167 95 (e_un n_167_95) := u_tabT (s_zret hq_167 hr_167 (by decide +kernel) : e_Sn 167 95 (o_ret e_okZ))
noncomputable def n_167_94 : e_Y := u_push (.inl 2147483648) n_167_95
theorem t_167_94 : e_Sn 167 94 (e_un n_167_94) := u_pushT (s_iconst (n := (0)) hq_167 (by decide +kernel) rfl ⟨by decide +kernel, by decide +kernel⟩ : e_Sn 167 94 (o_push (.inl 2147483648) 95)) t_167_95
noncomputable def n_167_91 : e_Y := n_167_95
theorem t_167_91 : e_Sn 167 91 (e_un n_167_91) := u_gotoT (s_goto (off := (4)) hq_167 (by decide +kernel) rfl : e_Sn 167 91 (o_goto 95)) t_167_95
noncomputable def n_167_90 : e_Y := u_push (.inl 2147483649) n_167_91
theorem t_167_90 : e_Sn 167 90 (e_un n_167_90) := u_pushT (s_iconst (n := (1)) hq_167 (by decide +kernel) rfl ⟨by decide +kernel, by decide +kernel⟩ : e_Sn 167 90 (o_push (.inl 2147483649) 91)) t_167_91
noncomputable def n_167_87 : e_Y := u_if y_ne0 (u_old2 (o_ifeq 90 94) 90 n_167_90 n_167_94) n_167_90 n_167_94
theorem t_167_87 : e_Sn 167 87 (e_un n_167_87) := u_ifeqT rfl (s_ifne (off := (7)) hq_167 (by decide +kernel) rfl rfl : e_Sn 167 87 (o_ifeq 90 94)) t_167_90 t_167_94
noncomputable def n_167_84 : e_Y := u_callS 162 6 25 3 n_162_0 n_167_87
theorem t_167_84 : e_Sn 167 84 (e_un n_167_84) := u_callST rfl (s_callS (index := 136) hq_167 ho_167 hy_162 hp_162 hc_162 hi_162 hd_162 (List.mem_of_getElem? (i := 1987) (by decide +kernel)) hs_162 (by decide +kernel) rfl : e_Sn 167 84 (o_callS 162 6 3 87)) t_162_0 t_167_87
noncomputable def n_167_81 : e_Y := u_push (e_L 9223372036854775817) n_167_84
theorem t_167_81 : e_Sn 167 81 (e_un n_167_81) := u_pushT (s_ldc2 (index := 142) (v := (9)) hq_167 ho_167 (List.mem_of_getElem? (i := 1991) (by decide +kernel)) (by decide +kernel) rfl ⟨by decide +kernel, by decide +kernel⟩ : e_Sn 167 81 (o_push (e_L 9223372036854775817) 84)) t_167_84
noncomputable def n_167_80 : e_Y := u_push (e_L 9223372036854775808) n_167_81
theorem t_167_80 : e_Sn 167 80 (e_un n_167_80) := u_pushT (s_lconst (n := 0) hq_167 (by decide +kernel) rfl ⟨by decide +kernel, by decide +kernel⟩ : e_Sn 167 80 (o_push (e_L 9223372036854775808) 81)) t_167_81
noncomputable def n_167_79 : e_Y := u_old (o_i2l 80) n_167_80
theorem t_167_79 : e_Sn 167 79 (e_un n_167_79) := u_oldT (s_i2l hq_167 (by decide +kernel) rfl : e_Sn 167 79 (o_i2l 80)) t_167_80 e_congr_i2l
noncomputable def n_167_78 : e_Y := u_ld f_okI f_l1 n_167_79
theorem t_167_78 : e_Sn 167 78 (e_un n_167_78) := u_ldIT f_l1_eq (s_iload (i := .iload_n 1) (len := 1) hq_167 (by decide +kernel) rfl (.inr ⟨1, rfl, rfl, rfl⟩) : e_Sn 167 78 (o_load e_okI 1 79)) t_167_79
noncomputable def n_167_77 : e_Y := u_tab (o_ret e_okZ)
theorem t_167_77 : e_Sn 167 77 (e_un n_167_77) := u_tabT (s_zret hq_167 hr_167 (by decide +kernel) : e_Sn 167 77 (o_ret e_okZ))
noncomputable def n_167_76 : e_Y := u_push (.inl 2147483648) n_167_77
theorem t_167_76 : e_Sn 167 76 (e_un n_167_76) := u_pushT (s_iconst (n := (0)) hq_167 (by decide +kernel) rfl ⟨by decide +kernel, by decide +kernel⟩ : e_Sn 167 76 (o_push (.inl 2147483648) 77)) t_167_77
noncomputable def n_167_73 : e_Y := n_167_77
theorem t_167_73 : e_Sn 167 73 (e_un n_167_73) := u_gotoT (s_goto (off := (4)) hq_167 (by decide +kernel) rfl : e_Sn 167 73 (o_goto 77)) t_167_77
noncomputable def n_167_72 : e_Y := u_push (.inl 2147483649) n_167_73
theorem t_167_72 : e_Sn 167 72 (e_un n_167_72) := u_pushT (s_iconst (n := (1)) hq_167 (by decide +kernel) rfl ⟨by decide +kernel, by decide +kernel⟩ : e_Sn 167 72 (o_push (.inl 2147483649) 73)) t_167_73
noncomputable def n_167_69 : e_Y := u_if y_ne0 (u_old2 (o_ifeq 72 76) 72 n_167_72 n_167_76) n_167_72 n_167_76
theorem t_167_69 : e_Sn 167 69 (e_un n_167_69) := u_ifeqT rfl (s_ifne (off := (7)) hq_167 (by decide +kernel) rfl rfl : e_Sn 167 69 (o_ifeq 72 76)) t_167_72 t_167_76
noncomputable def n_167_66 : e_Y := u_callS 162 6 25 3 n_162_0 n_167_69
theorem t_167_66 : e_Sn 167 66 (e_un n_167_66) := u_callST rfl (s_callS (index := 136) hq_167 ho_167 hy_162 hp_162 hc_162 hi_162 hd_162 (List.mem_of_getElem? (i := 1987) (by decide +kernel)) hs_162 (by decide +kernel) rfl : e_Sn 167 66 (o_callS 162 6 3 69)) t_162_0 t_167_69
noncomputable def n_167_63 : e_Y := u_push (e_L 9223372036854775860) n_167_66
theorem t_167_63 : e_Sn 167 63 (e_un n_167_63) := u_pushT (s_ldc2 (index := 140) (v := (52)) hq_167 ho_167 (List.mem_of_getElem? (i := 1990) (by decide +kernel)) (by decide +kernel) rfl ⟨by decide +kernel, by decide +kernel⟩ : e_Sn 167 63 (o_push (e_L 9223372036854775860) 66)) t_167_66
noncomputable def n_167_62 : e_Y := u_push (e_L 9223372036854775808) n_167_63
theorem t_167_62 : e_Sn 167 62 (e_un n_167_62) := u_pushT (s_lconst (n := 0) hq_167 (by decide +kernel) rfl ⟨by decide +kernel, by decide +kernel⟩ : e_Sn 167 62 (o_push (e_L 9223372036854775808) 63)) t_167_63
noncomputable def n_167_61 : e_Y := u_old (o_i2l 62) n_167_62
theorem t_167_61 : e_Sn 167 61 (e_un n_167_61) := u_oldT (s_i2l hq_167 (by decide +kernel) rfl : e_Sn 167 61 (o_i2l 62)) t_167_62 e_congr_i2l
noncomputable def n_167_60 : e_Y := u_ld f_okI f_l1 n_167_61
theorem t_167_60 : e_Sn 167 60 (e_un n_167_60) := u_ldIT f_l1_eq (s_iload (i := .iload_n 1) (len := 1) hq_167 (by decide +kernel) rfl (.inr ⟨1, rfl, rfl, rfl⟩) : e_Sn 167 60 (o_load e_okI 1 61)) t_167_61
noncomputable def n_167_59 : e_Y := u_tab (o_ret e_okZ)
theorem t_167_59 : e_Sn 167 59 (e_un n_167_59) := u_tabT (s_zret hq_167 hr_167 (by decide +kernel) : e_Sn 167 59 (o_ret e_okZ))
noncomputable def n_167_58 : e_Y := u_push (.inl 2147483648) n_167_59
theorem t_167_58 : e_Sn 167 58 (e_un n_167_58) := u_pushT (s_iconst (n := (0)) hq_167 (by decide +kernel) rfl ⟨by decide +kernel, by decide +kernel⟩ : e_Sn 167 58 (o_push (.inl 2147483648) 59)) t_167_59
noncomputable def n_167_55 : e_Y := n_167_59
theorem t_167_55 : e_Sn 167 55 (e_un n_167_55) := u_gotoT (s_goto (off := (4)) hq_167 (by decide +kernel) rfl : e_Sn 167 55 (o_goto 59)) t_167_59
noncomputable def n_167_54 : e_Y := u_push (.inl 2147483649) n_167_55
theorem t_167_54 : e_Sn 167 54 (e_un n_167_54) := u_pushT (s_iconst (n := (1)) hq_167 (by decide +kernel) rfl ⟨by decide +kernel, by decide +kernel⟩ : e_Sn 167 54 (o_push (.inl 2147483649) 55)) t_167_55
noncomputable def n_167_51 : e_Y := u_if y_ne0 (u_old2 (o_ifeq 54 58) 54 n_167_54 n_167_58) n_167_54 n_167_58
theorem t_167_51 : e_Sn 167 51 (e_un n_167_51) := u_ifeqT rfl (s_ifne (off := (7)) hq_167 (by decide +kernel) rfl rfl : e_Sn 167 51 (o_ifeq 54 58)) t_167_54 t_167_58
noncomputable def n_167_48 : e_Y := u_callS 162 6 25 3 n_162_0 n_167_51
theorem t_167_48 : e_Sn 167 48 (e_un n_167_48) := u_callST rfl (s_callS (index := 136) hq_167 ho_167 hy_162 hp_162 hc_162 hi_162 hd_162 (List.mem_of_getElem? (i := 1987) (by decide +kernel)) hs_162 (by decide +kernel) rfl : e_Sn 167 48 (o_callS 162 6 3 51)) t_162_0 t_167_51
noncomputable def n_167_45 : e_Y := u_push (e_L 9223372036854785807) n_167_48
theorem t_167_45 : e_Sn 167 45 (e_un n_167_45) := u_pushT (s_ldc2 (index := 134) (v := (9999)) hq_167 ho_167 (List.mem_of_getElem? (i := 1986) (by decide +kernel)) (by decide +kernel) rfl ⟨by decide +kernel, by decide +kernel⟩ : e_Sn 167 45 (o_push (e_L 9223372036854785807) 48)) t_167_48
noncomputable def n_167_42 : e_Y := u_push (e_L 9223372036854765809) n_167_45
theorem t_167_42 : e_Sn 167 42 (e_un n_167_42) := u_pushT (s_ldc2 (index := 132) (v := (-9999)) hq_167 ho_167 (List.mem_of_getElem? (i := 1985) (by decide +kernel)) (by decide +kernel) rfl ⟨by decide +kernel, by decide +kernel⟩ : e_Sn 167 42 (o_push (e_L 9223372036854765809) 45)) t_167_45
noncomputable def n_167_41 : e_Y := u_old (o_i2l 42) n_167_42
theorem t_167_41 : e_Sn 167 41 (e_un n_167_41) := u_oldT (s_i2l hq_167 (by decide +kernel) rfl : e_Sn 167 41 (o_i2l 42)) t_167_42 e_congr_i2l
noncomputable def n_167_40 : e_Y := u_ld f_okI f_l1 n_167_41
theorem t_167_40 : e_Sn 167 40 (e_un n_167_40) := u_ldIT f_l1_eq (s_iload (i := .iload_n 1) (len := 1) hq_167 (by decide +kernel) rfl (.inr ⟨1, rfl, rfl, rfl⟩) : e_Sn 167 40 (o_load e_okI 1 41)) t_167_41
noncomputable def n_167_1 : e_Y := u_tab (o_switch 2147483648 [40, 60, 78, 78, 96, 96] 106)
theorem t_167_1 : e_Sn 167 1 (e_un n_167_1) := u_tabT (s_switch (dflt := (105)) (low := (0)) (hi := (5)) (offs := #[(39), (59), (77), (77), (95), (95)]) (len := 39) hq_167 (by decide +kernel) rfl rfl rfl rfl : e_Sn 167 1 (o_switch 2147483648 [40, 60, 78, 78, 96, 96] 106))
noncomputable def n_167_0 : e_Y := u_ld f_okI f_l0 n_167_1
theorem t_167_0 : e_Sn 167 0 (e_un n_167_0) := u_ldIT f_l0_eq (s_iload (i := .iload_n 0) (len := 1) hq_167 (by decide +kernel) rfl (.inr ⟨0, rfl, rfl, rfl⟩) : e_Sn 167 0 (o_load e_okI 0 1)) t_167_1
noncomputable def e_tb_167 : e_X := (e_br 78 (e_br 40 (e_lf 0 (e_un n_167_0)) (e_br 60 (e_lf 40 (e_un n_167_40)) (e_lf 60 (e_un n_167_60)))) (e_br 96 (e_lf 78 (e_un n_167_78)) (e_br 106 (e_lf 96 (e_un n_167_96)) (e_lf 106 (e_un n_167_106)))))
theorem e_tk_167 : e_Tb 167 e_tb_167 := (e_brT (e_brT (e_lfT t_167_0) (e_brT (e_lfT t_167_40) (e_lfT t_167_60))) (e_brT (e_lfT t_167_78) (e_brT (e_lfT t_167_96) (e_lfT t_167_106))))
theorem hq_168 : (e_ml[168]?).map (·.2.1) = some prog_14_method_82_code := rfl
theorem ho_168 : (e_ml[168]?).map (·.1.cls) = some "PlateroomprinterModel" := rfl
theorem hr_168 : (e_ml[168]?).map (·.2.2.2) = some (some .boolean) := rfl
noncomputable def n_168_6 : e_Y := u_tab (o_ret e_okZ)
theorem t_168_6 : e_Sn 168 6 (e_un n_168_6) := u_tabT (s_zret hq_168 hr_168 (by decide +kernel) : e_Sn 168 6 (o_ret e_okZ))
noncomputable def n_168_5 : e_Y := u_push (.inl 2147483649) n_168_6
theorem t_168_5 : e_Sn 168 5 (e_un n_168_5) := u_pushT (s_iconst (n := (1)) hq_168 (by decide +kernel) rfl ⟨by decide +kernel, by decide +kernel⟩ : e_Sn 168 5 (o_push (.inl 2147483649) 6)) t_168_6
noncomputable def n_168_2 : e_Y := u_old (o_putf (e_f1 12 0) e_okI 5) n_168_5
theorem t_168_2 : e_Sn 168 2 (e_un n_168_2) := u_oldT (s_putf (ty0 := ey_12) (ok := e_okI) (C := er_12) (T := et_12) (N := 5) (ref := "PlateroomprinterModel") (index := 124) (ci := 12) (k := 0) hq_168 ho_168 ⟨rfl, by decide, ei_12, (List.mem_of_getElem? (i := 1958) (by decide +kernel)), .inl rfl⟩ eo_12 en_12 e_oksI (.inl rfl) (by decide +kernel) rfl : e_Sn 168 2 (o_putf (e_f1 12 0) e_okI 5)) t_168_5 (e_cg_putf (e_f1 12 0) e_okI)
noncomputable def n_168_1 : e_Y := u_push (.inl 2147483648) n_168_2
theorem t_168_1 : e_Sn 168 1 (e_un n_168_1) := u_pushT (s_iconst (n := (0)) hq_168 (by decide +kernel) rfl ⟨by decide +kernel, by decide +kernel⟩ : e_Sn 168 1 (o_push (.inl 2147483648) 2)) t_168_2
noncomputable def n_168_0 : e_Y := u_ld f_okA f_l0 n_168_1
theorem t_168_0 : e_Sn 168 0 (e_un n_168_0) := u_ldAT f_l0_eq (s_aload (i := .aload_n 0) (len := 1) hq_168 (by decide +kernel) rfl (.inr ⟨0, rfl, rfl, rfl⟩) : e_Sn 168 0 (o_load e_okR 0 1)) t_168_1
noncomputable def e_tb_168 : e_X := (e_lf 0 (e_un n_168_0))
theorem e_tk_168 : e_Tb 168 e_tb_168 := (e_lfT t_168_0)
theorem hq_169 : (e_ml[169]?).map (·.2.1) = some prog_14_method_38_code := rfl
theorem ho_169 : (e_ml[169]?).map (·.1.cls) = some "PlateroomprinterModel" := rfl
theorem hr_169 : (e_ml[169]?).map (·.2.2.2) = some (some .int) := rfl
noncomputable def n_169_93 : e_Y := u_retI
theorem t_169_93 : e_Sn 169 93 (e_un n_169_93) := u_retIT (s_iret hq_169 hr_169 (by decide +kernel) : e_Sn 169 93 (o_ret e_okI))
noncomputable def n_169_59 : e_Y := n_169_93
theorem t_169_59 : e_Sn 169 59 (e_un n_169_59) := u_gotoT (s_goto (off := (34)) hq_169 (by decide +kernel) rfl : e_Sn 169 59 (o_goto 93)) t_169_93
noncomputable def n_169_58 : e_Y := u_push (.inl 2147483648) n_169_59
theorem t_169_58 : e_Sn 169 58 (e_un n_169_58) := u_pushT (s_iconst (n := (0)) hq_169 (by decide +kernel) rfl ⟨by decide +kernel, by decide +kernel⟩ : e_Sn 169 58 (o_push (.inl 2147483648) 59)) t_169_59
noncomputable def n_169_32 : e_Y := u_if y_ne0 (u_old2 (o_ifeq 35 58) 35 (u_at 35) n_169_58) (u_at 35) n_169_58
theorem t_169_32 : e_Sn 169 32 (e_un n_169_32) := u_ifeqT rfl (s_ifne (off := (26)) hq_169 (by decide +kernel) rfl rfl : e_Sn 169 32 (o_ifeq 35 58)) u_atT t_169_58
noncomputable def n_169_29 : e_Y := u_callV 12 195 3 22 3 n_195_0 n_169_32
theorem t_169_29 : e_Sn 169 29 (e_un n_169_29) := u_callVT rfl (s_callV (ci := 12) (C := er_12) (T := et_12) (N := 5) (index := 148) hq_169 ho_169 hy_195 hp_195 hc_195 hi_195 hd_195 (List.mem_of_getElem? (i := 1992) (by decide +kernel)) hs_195 (List.mem_of_getElem? (i := 73) (by decide +kernel)) rfl (by decide +kernel) rfl : e_Sn 169 29 (o_callV (e_s1 12 195 3) 3 32)) t_195_0 t_169_32
noncomputable def n_169_28 : e_Y := u_push (.inl 2147483649) n_169_29
theorem t_169_28 : e_Sn 169 28 (e_un n_169_28) := u_pushT (s_iconst (n := (1)) hq_169 (by decide +kernel) rfl ⟨by decide +kernel, by decide +kernel⟩ : e_Sn 169 28 (o_push (.inl 2147483649) 29)) t_169_29
noncomputable def n_169_24 : e_Y := n_169_28
theorem t_169_24 : e_Sn 169 24 (e_un n_169_24) := u_gotoT (s_goto (off := (4)) hq_169 (by decide +kernel) rfl : e_Sn 169 24 (o_goto 28)) t_169_28
noncomputable def n_169_23 : e_Y := u_push (.inl 2147483649) n_169_24
theorem t_169_23 : e_Sn 169 23 (e_un n_169_23) := u_pushT (s_iconst (n := (1)) hq_169 (by decide +kernel) rfl ⟨by decide +kernel, by decide +kernel⟩ : e_Sn 169 23 (o_push (.inl 2147483649) 24)) t_169_24
noncomputable def n_169_20 : e_Y := u_if y_ne0 (u_old2 (o_ifeq 23 27) 23 n_169_23 (u_at 27)) n_169_23 (u_at 27)
theorem t_169_20 : e_Sn 169 20 (e_un n_169_20) := u_ifeqT rfl (s_ifne (off := (7)) hq_169 (by decide +kernel) rfl rfl : e_Sn 169 20 (o_ifeq 23 27)) t_169_23 u_atT
noncomputable def n_169_17 : e_Y := u_callS 162 6 25 3 n_162_0 n_169_20
theorem t_169_17 : e_Sn 169 17 (e_un n_169_17) := u_callST rfl (s_callS (index := 136) hq_169 ho_169 hy_162 hp_162 hc_162 hi_162 hd_162 (List.mem_of_getElem? (i := 1987) (by decide +kernel)) hs_162 (by decide +kernel) rfl : e_Sn 169 17 (o_callS 162 6 3 20)) t_162_0 t_169_20
noncomputable def n_169_16 : e_Y := u_old (o_i2l 17) n_169_17
theorem t_169_16 : e_Sn 169 16 (e_un n_169_16) := u_oldT (s_i2l hq_169 (by decide +kernel) rfl : e_Sn 169 16 (o_i2l 17)) t_169_17 e_congr_i2l
noncomputable def n_169_15 : e_Y := u_bin a_isub (u_old (o_isub 16) n_169_16) n_169_16
theorem t_169_15 : e_Sn 169 15 (e_un n_169_15) := u_isubT (s_isub hq_169 (by decide +kernel) rfl : e_Sn 169 15 (o_isub 16)) t_169_16
noncomputable def n_169_14 : e_Y := u_push (.inl 2147483649) n_169_15
theorem t_169_14 : e_Sn 169 14 (e_un n_169_14) := u_pushT (s_iconst (n := (1)) hq_169 (by decide +kernel) rfl ⟨by decide +kernel, by decide +kernel⟩ : e_Sn 169 14 (o_push (.inl 2147483649) 15)) t_169_15
noncomputable def n_169_11 : e_Y := u_callV 18 234 1 20 1 n_234_0 n_169_14
theorem t_169_11 : e_Sn 169 11 (e_un n_169_11) := u_callVT rfl (s_callV (ci := 18) (C := er_18) (T := et_18) (N := 3) (index := 74) hq_169 ho_169 hy_234 hp_234 hc_234 hi_234 hd_234 (List.mem_of_getElem? (i := 2000) (by decide +kernel)) hs_234 (List.mem_of_getElem? (i := 2002) (by decide +kernel)) rfl (by decide +kernel) rfl : e_Sn 169 11 (o_callV (e_s1 18 234 1) 1 14)) t_234_0 t_169_14
noncomputable def n_169_8 : e_Y := u_getf 13 0 (u_old (o_getf (e_f1 13 0) 11) n_169_11) n_169_11
theorem t_169_8 : e_Sn 169 8 (e_un n_169_8) := u_getfT (s_getf (C := er_13) (T := et_13) (N := 13) (ref := "PlateroomprinterModel$Machine") (index := 187) (ci := 13) (k := 0) hq_169 ho_169 ⟨rfl, by decide, ei_13, (List.mem_of_getElem? (i := 1892) (by decide +kernel)), .inl rfl⟩ (by decide +kernel) rfl : e_Sn 169 8 (o_getf (e_f1 13 0) 11)) t_169_11
noncomputable def n_169_5 : e_Y := u_getf 12 1 (u_old (o_getf (e_f1 12 1) 8) n_169_8) n_169_8
theorem t_169_5 : e_Sn 169 5 (e_un n_169_5) := u_getfT (s_getf (C := er_12) (T := et_12) (N := 5) (ref := "PlateroomprinterModel") (index := 10) (ci := 12) (k := 1) hq_169 ho_169 ⟨rfl, by decide, ei_12, (List.mem_of_getElem? (i := 1959) (by decide +kernel)), .inl rfl⟩ (by decide +kernel) rfl : e_Sn 169 5 (o_getf (e_f1 12 1) 8)) t_169_8
noncomputable def n_169_4 : e_Y := u_ld f_okA f_l0 n_169_5
theorem t_169_4 : e_Sn 169 4 (e_un n_169_4) := u_ldAT f_l0_eq (s_aload (i := .aload_n 0) (len := 1) hq_169 (by decide +kernel) rfl (.inr ⟨0, rfl, rfl, rfl⟩) : e_Sn 169 4 (o_load e_okR 0 5)) t_169_5
noncomputable def n_169_3 : e_Y := u_push (e_L 9223372036854775808) n_169_4
theorem t_169_3 : e_Sn 169 3 (e_un n_169_3) := u_pushT (s_lconst (n := 0) hq_169 (by decide +kernel) rfl ⟨by decide +kernel, by decide +kernel⟩ : e_Sn 169 3 (o_push (e_L 9223372036854775808) 4)) t_169_4
noncomputable def n_169_2 : e_Y := u_old (o_i2l 3) n_169_3
theorem t_169_2 : e_Sn 169 2 (e_un n_169_2) := u_oldT (s_i2l hq_169 (by decide +kernel) rfl : e_Sn 169 2 (o_i2l 3)) t_169_3 e_congr_i2l
noncomputable def n_169_1 : e_Y := u_ld f_okI f_l1 n_169_2
theorem t_169_1 : e_Sn 169 1 (e_un n_169_1) := u_ldIT f_l1_eq (s_iload (i := .iload_n 1) (len := 1) hq_169 (by decide +kernel) rfl (.inr ⟨1, rfl, rfl, rfl⟩) : e_Sn 169 1 (o_load e_okI 1 2)) t_169_2
noncomputable def n_169_0 : e_Y := u_ld f_okA f_l0 n_169_1
theorem t_169_0 : e_Sn 169 0 (e_un n_169_0) := u_ldAT f_l0_eq (s_aload (i := .aload_n 0) (len := 1) hq_169 (by decide +kernel) rfl (.inr ⟨0, rfl, rfl, rfl⟩) : e_Sn 169 0 (o_load e_okR 0 1)) t_169_1
noncomputable def e_tb_169 : e_X := (e_lf 0 (e_un n_169_0))
theorem e_tk_169 : e_Tb 169 e_tb_169 := (e_lfT t_169_0)
theorem hq_170 : (e_ml[170]?).map (·.2.1) = some prog_14_method_37_code := rfl
theorem ho_170 : (e_ml[170]?).map (·.1.cls) = some "PlateroomprinterModel" := rfl
theorem hr_170 : (e_ml[170]?).map (·.2.2.2) = some (some .int) := rfl
noncomputable def n_170_15 : e_Y := u_retI
theorem t_170_15 : e_Sn 170 15 (e_un n_170_15) := u_retIT (s_iret hq_170 hr_170 (by decide +kernel) : e_Sn 170 15 (o_ret e_okI))
noncomputable def n_170_12 : e_Y := u_callV 18 234 1 20 1 n_234_0 n_170_15
theorem t_170_12 : e_Sn 170 12 (e_un n_170_12) := u_callVT rfl (s_callV (ci := 18) (C := er_18) (T := et_18) (N := 3) (index := 74) hq_170 ho_170 hy_234 hp_234 hc_234 hi_234 hd_234 (List.mem_of_getElem? (i := 2000) (by decide +kernel)) hs_234 (List.mem_of_getElem? (i := 2002) (by decide +kernel)) rfl (by decide +kernel) rfl : e_Sn 170 12 (o_callV (e_s1 18 234 1) 1 15)) t_234_0 t_170_15
noncomputable def n_170_9 : e_Y := u_getf 13 0 (u_old (o_getf (e_f1 13 0) 12) n_170_12) n_170_12
theorem t_170_9 : e_Sn 170 9 (e_un n_170_9) := u_getfT (s_getf (C := er_13) (T := et_13) (N := 13) (ref := "PlateroomprinterModel$Machine") (index := 187) (ci := 13) (k := 0) hq_170 ho_170 ⟨rfl, by decide, ei_13, (List.mem_of_getElem? (i := 1892) (by decide +kernel)), .inl rfl⟩ (by decide +kernel) rfl : e_Sn 170 9 (o_getf (e_f1 13 0) 12)) t_170_12
noncomputable def n_170_6 : e_Y := u_getf 12 1 (u_old (o_getf (e_f1 12 1) 9) n_170_9) n_170_9
theorem t_170_6 : e_Sn 170 6 (e_un n_170_6) := u_getfT (s_getf (C := er_12) (T := et_12) (N := 5) (ref := "PlateroomprinterModel") (index := 10) (ci := 12) (k := 1) hq_170 ho_170 ⟨rfl, by decide, ei_12, (List.mem_of_getElem? (i := 1959) (by decide +kernel)), .inl rfl⟩ (by decide +kernel) rfl : e_Sn 170 6 (o_getf (e_f1 12 1) 9)) t_170_9
noncomputable def n_170_5 : e_Y := u_ld f_okA f_l0 n_170_6
theorem t_170_5 : e_Sn 170 5 (e_un n_170_5) := u_ldAT f_l0_eq (s_aload (i := .aload_n 0) (len := 1) hq_170 (by decide +kernel) rfl (.inr ⟨0, rfl, rfl, rfl⟩) : e_Sn 170 5 (o_load e_okR 0 6)) t_170_6
noncomputable def n_170_2 : e_Y := u_old (o_putf (e_f1 12 0) e_okI 5) n_170_5
theorem t_170_2 : e_Sn 170 2 (e_un n_170_2) := u_oldT (s_putf (ty0 := ey_12) (ok := e_okI) (C := er_12) (T := et_12) (N := 5) (ref := "PlateroomprinterModel") (index := 124) (ci := 12) (k := 0) hq_170 ho_170 ⟨rfl, by decide, ei_12, (List.mem_of_getElem? (i := 1958) (by decide +kernel)), .inl rfl⟩ eo_12 en_12 e_oksI (.inl rfl) (by decide +kernel) rfl : e_Sn 170 2 (o_putf (e_f1 12 0) e_okI 5)) t_170_5 (e_cg_putf (e_f1 12 0) e_okI)
noncomputable def n_170_1 : e_Y := u_push (.inl 2147483648) n_170_2
theorem t_170_1 : e_Sn 170 1 (e_un n_170_1) := u_pushT (s_iconst (n := (0)) hq_170 (by decide +kernel) rfl ⟨by decide +kernel, by decide +kernel⟩ : e_Sn 170 1 (o_push (.inl 2147483648) 2)) t_170_2
noncomputable def n_170_0 : e_Y := u_ld f_okA f_l0 n_170_1
theorem t_170_0 : e_Sn 170 0 (e_un n_170_0) := u_ldAT f_l0_eq (s_aload (i := .aload_n 0) (len := 1) hq_170 (by decide +kernel) rfl (.inr ⟨0, rfl, rfl, rfl⟩) : e_Sn 170 0 (o_load e_okR 0 1)) t_170_1
noncomputable def e_tb_170 : e_X := (e_lf 0 (e_un n_170_0))
theorem e_tk_170 : e_Tb 170 e_tb_170 := (e_lfT t_170_0)
theorem hq_171 : (e_ml[171]?).map (·.2.1) = some prog_14_method_33_code := rfl
theorem ho_171 : (e_ml[171]?).map (·.1.cls) = some "PlateroomprinterModel" := rfl
theorem hr_171 : (e_ml[171]?).map (·.2.2.2) = some (some .int) := rfl
noncomputable def n_171_19 : e_Y := u_retI
theorem t_171_19 : e_Sn 171 19 (e_un n_171_19) := u_retIT (s_iret hq_171 hr_171 (by decide +kernel) : e_Sn 171 19 (o_ret e_okI))
noncomputable def n_171_16 : e_Y := u_getf 12 4 (u_old (o_getf (e_f1 12 4) 19) n_171_19) n_171_19
theorem t_171_16 : e_Sn 171 16 (e_un n_171_16) := u_getfT (s_getf (C := er_12) (T := et_12) (N := 5) (ref := "PlateroomprinterModel") (index := 184) (ci := 12) (k := 4) hq_171 ho_171 ⟨rfl, by decide, ei_12, (List.mem_of_getElem? (i := 1962) (by decide +kernel)), .inl rfl⟩ (by decide +kernel) rfl : e_Sn 171 16 (o_getf (e_f1 12 4) 19)) t_171_19
noncomputable def n_171_15 : e_Y := u_ld f_okA f_l0 n_171_16
theorem t_171_15 : e_Sn 171 15 (e_un n_171_15) := u_ldAT f_l0_eq (s_aload (i := .aload_n 0) (len := 1) hq_171 (by decide +kernel) rfl (.inr ⟨0, rfl, rfl, rfl⟩) : e_Sn 171 15 (o_load e_okR 0 16)) t_171_16
noncomputable def n_171_12 : e_Y := u_old (o_putf (e_f1 12 4) e_okI 15) n_171_15
theorem t_171_12 : e_Sn 171 12 (e_un n_171_12) := u_oldT (s_putf (ty0 := ey_12) (ok := e_okI) (C := er_12) (T := et_12) (N := 5) (ref := "PlateroomprinterModel") (index := 184) (ci := 12) (k := 4) hq_171 ho_171 ⟨rfl, by decide, ei_12, (List.mem_of_getElem? (i := 1962) (by decide +kernel)), .inl rfl⟩ eo_12 en_12 e_oksI (.inl rfl) (by decide +kernel) rfl : e_Sn 171 12 (o_putf (e_f1 12 4) e_okI 15)) t_171_15 (e_cg_putf (e_f1 12 4) e_okI)
noncomputable def n_171_11 : e_Y := u_bin a_iadd (u_old (o_iadd 12) n_171_12) n_171_12
theorem t_171_11 : e_Sn 171 11 (e_un n_171_11) := u_iaddT (s_iadd hq_171 (by decide +kernel) rfl : e_Sn 171 11 (o_iadd 12)) t_171_12
noncomputable def n_171_10 : e_Y := u_push (.inl 2147483649) n_171_11
theorem t_171_10 : e_Sn 171 10 (e_un n_171_10) := u_pushT (s_iconst (n := (1)) hq_171 (by decide +kernel) rfl ⟨by decide +kernel, by decide +kernel⟩ : e_Sn 171 10 (o_push (.inl 2147483649) 11)) t_171_11
noncomputable def n_171_7 : e_Y := u_getf 12 4 (u_old (o_getf (e_f1 12 4) 10) n_171_10) n_171_10
theorem t_171_7 : e_Sn 171 7 (e_un n_171_7) := u_getfT (s_getf (C := er_12) (T := et_12) (N := 5) (ref := "PlateroomprinterModel") (index := 184) (ci := 12) (k := 4) hq_171 ho_171 ⟨rfl, by decide, ei_12, (List.mem_of_getElem? (i := 1962) (by decide +kernel)), .inl rfl⟩ (by decide +kernel) rfl : e_Sn 171 7 (o_getf (e_f1 12 4) 10)) t_171_10
noncomputable def n_171_6 : e_Y := u_old (o_dup 7) n_171_7
theorem t_171_6 : e_Sn 171 6 (e_un n_171_6) := u_oldT (s_dup hq_171 (by decide +kernel) rfl : e_Sn 171 6 (o_dup 7)) t_171_7 e_cg_dup
noncomputable def n_171_5 : e_Y := u_ld f_okA f_l0 n_171_6
theorem t_171_5 : e_Sn 171 5 (e_un n_171_5) := u_ldAT f_l0_eq (s_aload (i := .aload_n 0) (len := 1) hq_171 (by decide +kernel) rfl (.inr ⟨0, rfl, rfl, rfl⟩) : e_Sn 171 5 (o_load e_okR 0 6)) t_171_6
noncomputable def n_171_2 : e_Y := u_old (o_putf (e_f1 12 0) e_okI 5) n_171_5
theorem t_171_2 : e_Sn 171 2 (e_un n_171_2) := u_oldT (s_putf (ty0 := ey_12) (ok := e_okI) (C := er_12) (T := et_12) (N := 5) (ref := "PlateroomprinterModel") (index := 124) (ci := 12) (k := 0) hq_171 ho_171 ⟨rfl, by decide, ei_12, (List.mem_of_getElem? (i := 1958) (by decide +kernel)), .inl rfl⟩ eo_12 en_12 e_oksI (.inl rfl) (by decide +kernel) rfl : e_Sn 171 2 (o_putf (e_f1 12 0) e_okI 5)) t_171_5 (e_cg_putf (e_f1 12 0) e_okI)
noncomputable def n_171_1 : e_Y := u_push (.inl 2147483648) n_171_2
theorem t_171_1 : e_Sn 171 1 (e_un n_171_1) := u_pushT (s_iconst (n := (0)) hq_171 (by decide +kernel) rfl ⟨by decide +kernel, by decide +kernel⟩ : e_Sn 171 1 (o_push (.inl 2147483648) 2)) t_171_2
noncomputable def n_171_0 : e_Y := u_ld f_okA f_l0 n_171_1
theorem t_171_0 : e_Sn 171 0 (e_un n_171_0) := u_ldAT f_l0_eq (s_aload (i := .aload_n 0) (len := 1) hq_171 (by decide +kernel) rfl (.inr ⟨0, rfl, rfl, rfl⟩) : e_Sn 171 0 (o_load e_okR 0 1)) t_171_1
noncomputable def e_tb_171 : e_X := (e_lf 0 (e_un n_171_0))
theorem e_tk_171 : e_Tb 171 e_tb_171 := (e_lfT t_171_0)
theorem hq_172 : (e_ml[172]?).map (·.2.1) = some prog_14_method_67_code := rfl
theorem ho_172 : (e_ml[172]?).map (·.1.cls) = some "PlateroomprinterModel" := rfl
theorem hr_172 : (e_ml[172]?).map (·.2.2.2) = some (some .int) := rfl
noncomputable def n_172_73 : e_Y := u_retI
theorem t_172_73 : e_Sn 172 73 (e_un n_172_73) := u_retIT (s_iret hq_172 hr_172 (by decide +kernel) : e_Sn 172 73 (o_ret e_okI))
noncomputable def n_172_72 : e_Y := u_ld f_okI f_l3 n_172_73
theorem t_172_72 : e_Sn 172 72 (e_un n_172_72) := u_ldIT f_l3_eq (s_iload (i := .iload_n 3) (len := 1) hq_172 (by decide +kernel) rfl (.inr ⟨3, rfl, rfl, rfl⟩) : e_Sn 172 72 (o_load e_okI 3 73)) t_172_73
noncomputable def n_172_32 : e_Y := u_jmp y_ge (u_old2 (o_clt 35 72) 35 (u_at 35) n_172_72) (u_at 35) n_172_72
theorem t_172_32 : e_Sn 172 32 (e_un n_172_32) := u_cltT rfl (s_cge (off := (40)) hq_172 (by decide +kernel) rfl rfl : e_Sn 172 32 (o_clt 35 72)) u_atT t_172_72
noncomputable def n_172_29 : e_Y := u_callV 18 234 1 20 1 n_234_0 n_172_32
theorem t_172_29 : e_Sn 172 29 (e_un n_172_29) := u_callVT rfl (s_callV (ci := 18) (C := er_18) (T := et_18) (N := 3) (index := 74) hq_172 ho_172 hy_234 hp_234 hc_234 hi_234 hd_234 (List.mem_of_getElem? (i := 2000) (by decide +kernel)) hs_234 (List.mem_of_getElem? (i := 2002) (by decide +kernel)) rfl (by decide +kernel) rfl : e_Sn 172 29 (o_callV (e_s1 18 234 1) 1 32)) t_234_0 t_172_32
noncomputable def n_172_26 : e_Y := u_getf 13 5 (u_old (o_getf (e_f1 13 5) 29) n_172_29) n_172_29
theorem t_172_26 : e_Sn 172 26 (e_un n_172_26) := u_getfT (s_getf (C := er_13) (T := et_13) (N := 13) (ref := "PlateroomprinterModel$Machine") (index := 311) (ci := 13) (k := 5) hq_172 ho_172 ⟨rfl, by decide, ei_13, (List.mem_of_getElem? (i := 1907) (by decide +kernel)), .inl rfl⟩ (by decide +kernel) rfl : e_Sn 172 26 (o_getf (e_f1 13 5) 29)) t_172_29
noncomputable def n_172_23 : e_Y := u_getf 12 1 (u_old (o_getf (e_f1 12 1) 26) n_172_26) n_172_26
theorem t_172_23 : e_Sn 172 23 (e_un n_172_23) := u_getfT (s_getf (C := er_12) (T := et_12) (N := 5) (ref := "PlateroomprinterModel") (index := 10) (ci := 12) (k := 1) hq_172 ho_172 ⟨rfl, by decide, ei_12, (List.mem_of_getElem? (i := 1959) (by decide +kernel)), .inl rfl⟩ (by decide +kernel) rfl : e_Sn 172 23 (o_getf (e_f1 12 1) 26)) t_172_26
noncomputable def n_172_22 : e_Y := u_ld f_okA f_l0 n_172_23
theorem t_172_22 : e_Sn 172 22 (e_un n_172_22) := u_ldAT f_l0_eq (s_aload (i := .aload_n 0) (len := 1) hq_172 (by decide +kernel) rfl (.inr ⟨0, rfl, rfl, rfl⟩) : e_Sn 172 22 (o_load e_okR 0 23)) t_172_23
noncomputable def n_172_20 : e_Y := u_ld f_okI f_l4 n_172_22
theorem t_172_20 : e_Sn 172 20 (e_un n_172_20) := u_ldIT f_l4_eq (s_iload (i := .iload 4) (len := 2) hq_172 (by decide +kernel) rfl (.inl ⟨rfl, rfl⟩) : e_Sn 172 20 (o_load e_okI 4 22)) t_172_22
noncomputable def n_172_18 : e_Y := u_st f_okI f_s4 n_172_20
theorem t_172_18 : e_Sn 172 18 (e_un n_172_18) := u_stIT (fun _ _ _ => f_s4_eq) (s_istore (i := .istore 4) (len := 2) hq_172 (by decide +kernel) rfl (.inl ⟨rfl, rfl⟩) : e_Sn 172 18 (o_store e_okI 4 20)) t_172_20
noncomputable def n_172_17 : e_Y := u_push (.inl 2147483648) n_172_18
theorem t_172_17 : e_Sn 172 17 (e_un n_172_17) := u_pushT (s_iconst (n := (0)) hq_172 (by decide +kernel) rfl ⟨by decide +kernel, by decide +kernel⟩ : e_Sn 172 17 (o_push (.inl 2147483648) 18)) t_172_18
noncomputable def n_172_16 : e_Y := u_st f_okI f_s3 n_172_17
theorem t_172_16 : e_Sn 172 16 (e_un n_172_16) := u_stIT (fun _ _ _ => f_s3_eq) (s_istore (i := .istore_n 3) (len := 1) hq_172 (by decide +kernel) rfl (.inr ⟨3, rfl, rfl, rfl⟩) : e_Sn 172 16 (o_store e_okI 3 17)) t_172_17
noncomputable def n_172_15 : e_Y := u_push (.inl 2147483647) n_172_16
theorem t_172_15 : e_Sn 172 15 (e_un n_172_15) := u_pushT (s_iconst (n := (-1)) hq_172 (by decide +kernel) rfl ⟨by decide +kernel, by decide +kernel⟩ : e_Sn 172 15 (o_push (.inl 2147483647) 16)) t_172_16
noncomputable def n_172_14 : e_Y := u_retI
theorem t_172_14 : e_Sn 172 14 (e_un n_172_14) := u_retIT (s_iret hq_172 hr_172 (by decide +kernel) : e_Sn 172 14 (o_ret e_okI))
noncomputable def n_172_13 : e_Y := u_push (.inl 2147483648) n_172_14
theorem t_172_13 : e_Sn 172 13 (e_un n_172_13) := u_pushT (s_iconst (n := (0)) hq_172 (by decide +kernel) rfl ⟨by decide +kernel, by decide +kernel⟩ : e_Sn 172 13 (o_push (.inl 2147483648) 14)) t_172_14
noncomputable def n_172_10 : e_Y := u_if y_ne0 (u_old2 (o_ifeq 15 13) 15 n_172_15 n_172_13) n_172_15 n_172_13
theorem t_172_10 : e_Sn 172 10 (e_un n_172_10) := u_ifeqT rfl (s_ifeq (off := (5)) hq_172 (by decide +kernel) rfl rfl : e_Sn 172 10 (o_ifeq 15 13)) t_172_15 t_172_13
noncomputable def n_172_7 : e_Y := u_callV 12 195 3 22 3 n_195_0 n_172_10
theorem t_172_7 : e_Sn 172 7 (e_un n_172_7) := u_callVT rfl (s_callV (ci := 12) (C := er_12) (T := et_12) (N := 5) (index := 148) hq_172 ho_172 hy_195 hp_195 hc_195 hi_195 hd_195 (List.mem_of_getElem? (i := 1992) (by decide +kernel)) hs_195 (List.mem_of_getElem? (i := 73) (by decide +kernel)) rfl (by decide +kernel) rfl : e_Sn 172 7 (o_callV (e_s1 12 195 3) 3 10)) t_195_0 t_172_10
noncomputable def n_172_6 : e_Y := u_push (.inl 2147483649) n_172_7
theorem t_172_6 : e_Sn 172 6 (e_un n_172_6) := u_pushT (s_iconst (n := (1)) hq_172 (by decide +kernel) rfl ⟨by decide +kernel, by decide +kernel⟩ : e_Sn 172 6 (o_push (.inl 2147483649) 7)) t_172_7
noncomputable def n_172_3 : e_Y := u_callS 163 2 21 2 n_163_0 n_172_6
theorem t_172_3 : e_Sn 172 3 (e_un n_172_3) := u_callST rfl (s_callS (index := 288) hq_172 ho_172 hy_163 hp_163 hc_163 hi_163 hd_163 (List.mem_of_getElem? (i := 3006) (by decide +kernel)) hs_163 (by decide +kernel) rfl : e_Sn 172 3 (o_callS 163 2 2 6)) t_163_0 t_172_6
noncomputable def n_172_2 : e_Y := u_ld f_okI f_l2 n_172_3
theorem t_172_2 : e_Sn 172 2 (e_un n_172_2) := u_ldIT f_l2_eq (s_iload (i := .iload_n 2) (len := 1) hq_172 (by decide +kernel) rfl (.inr ⟨2, rfl, rfl, rfl⟩) : e_Sn 172 2 (o_load e_okI 2 3)) t_172_3
noncomputable def n_172_1 : e_Y := u_ld f_okI f_l1 n_172_2
theorem t_172_1 : e_Sn 172 1 (e_un n_172_1) := u_ldIT f_l1_eq (s_iload (i := .iload_n 1) (len := 1) hq_172 (by decide +kernel) rfl (.inr ⟨1, rfl, rfl, rfl⟩) : e_Sn 172 1 (o_load e_okI 1 2)) t_172_2
noncomputable def n_172_0 : e_Y := u_ld f_okA f_l0 n_172_1
theorem t_172_0 : e_Sn 172 0 (e_un n_172_0) := u_ldAT f_l0_eq (s_aload (i := .aload_n 0) (len := 1) hq_172 (by decide +kernel) rfl (.inr ⟨0, rfl, rfl, rfl⟩) : e_Sn 172 0 (o_load e_okR 0 1)) t_172_1
noncomputable def e_tb_172 : e_X := (e_lf 0 (e_un n_172_0))
theorem e_tk_172 : e_Tb 172 e_tb_172 := (e_lfT t_172_0)
theorem hq_173 : (e_ml[173]?).map (·.2.1) = some prog_14_method_81_code := rfl
theorem ho_173 : (e_ml[173]?).map (·.1.cls) = some "PlateroomprinterModel" := rfl
theorem hr_173 : (e_ml[173]?).map (·.2.2.2) = some (some .int) := rfl
noncomputable def n_173_47 : e_Y := u_retI
theorem t_173_47 : e_Sn 173 47 (e_un n_173_47) := u_retIT (s_iret hq_173 hr_173 (by decide +kernel) : e_Sn 173 47 (o_ret e_okI))
noncomputable def n_173_28 : e_Y := n_173_47
theorem t_173_28 : e_Sn 173 28 (e_un n_173_28) := u_gotoT (s_goto (off := (19)) hq_173 (by decide +kernel) rfl : e_Sn 173 28 (o_goto 47)) t_173_47
noncomputable def n_173_27 : e_Y := u_push (.inl 2147483647) n_173_28
theorem t_173_27 : e_Sn 173 27 (e_un n_173_27) := u_pushT (s_iconst (n := (-1)) hq_173 (by decide +kernel) rfl ⟨by decide +kernel, by decide +kernel⟩ : e_Sn 173 27 (o_push (.inl 2147483647) 28)) t_173_28
noncomputable def n_173_24 : e_Y := u_tab (o_null 27 31)
theorem t_173_24 : e_Sn 173 24 (e_un n_173_24) := u_tabT (s_ifnonnull (off := (7)) hq_173 (by decide +kernel) rfl rfl : e_Sn 173 24 (o_null 27 31))
noncomputable def n_173_21 : e_Y := u_getf 13 7 (u_old (o_getf (e_f1 13 7) 24) n_173_24) n_173_24
theorem t_173_21 : e_Sn 173 21 (e_un n_173_21) := u_getfT (s_getf (C := er_13) (T := et_13) (N := 13) (ref := "PlateroomprinterModel$Machine") (index := 364) (ci := 13) (k := 7) hq_173 ho_173 ⟨rfl, by decide, ei_13, (List.mem_of_getElem? (i := 1913) (by decide +kernel)), .inl rfl⟩ (by decide +kernel) rfl : e_Sn 173 21 (o_getf (e_f1 13 7) 24)) t_173_24
noncomputable def n_173_18 : e_Y := u_getf 12 1 (u_old (o_getf (e_f1 12 1) 21) n_173_21) n_173_21
theorem t_173_18 : e_Sn 173 18 (e_un n_173_18) := u_getfT (s_getf (C := er_12) (T := et_12) (N := 5) (ref := "PlateroomprinterModel") (index := 10) (ci := 12) (k := 1) hq_173 ho_173 ⟨rfl, by decide, ei_12, (List.mem_of_getElem? (i := 1959) (by decide +kernel)), .inl rfl⟩ (by decide +kernel) rfl : e_Sn 173 18 (o_getf (e_f1 12 1) 21)) t_173_21
noncomputable def n_173_17 : e_Y := u_ld f_okA f_l0 n_173_18
theorem t_173_17 : e_Sn 173 17 (e_un n_173_17) := u_ldAT f_l0_eq (s_aload (i := .aload_n 0) (len := 1) hq_173 (by decide +kernel) rfl (.inr ⟨0, rfl, rfl, rfl⟩) : e_Sn 173 17 (o_load e_okR 0 18)) t_173_18
noncomputable def n_173_14 : e_Y := n_173_47
theorem t_173_14 : e_Sn 173 14 (e_un n_173_14) := u_gotoT (s_goto (off := (33)) hq_173 (by decide +kernel) rfl : e_Sn 173 14 (o_goto 47)) t_173_47
noncomputable def n_173_13 : e_Y := u_push (.inl 2147483648) n_173_14
theorem t_173_13 : e_Sn 173 13 (e_un n_173_13) := u_pushT (s_iconst (n := (0)) hq_173 (by decide +kernel) rfl ⟨by decide +kernel, by decide +kernel⟩ : e_Sn 173 13 (o_push (.inl 2147483648) 14)) t_173_14
noncomputable def n_173_10 : e_Y := u_if y_ne0 (u_old2 (o_ifeq 17 13) 17 n_173_17 n_173_13) n_173_17 n_173_13
theorem t_173_10 : e_Sn 173 10 (e_un n_173_10) := u_ifeqT rfl (s_ifeq (off := (7)) hq_173 (by decide +kernel) rfl rfl : e_Sn 173 10 (o_ifeq 17 13)) t_173_17 t_173_13
noncomputable def n_173_7 : e_Y := u_callV 12 195 3 22 3 n_195_0 n_173_10
theorem t_173_7 : e_Sn 173 7 (e_un n_173_7) := u_callVT rfl (s_callV (ci := 12) (C := er_12) (T := et_12) (N := 5) (index := 148) hq_173 ho_173 hy_195 hp_195 hc_195 hi_195 hd_195 (List.mem_of_getElem? (i := 1992) (by decide +kernel)) hs_195 (List.mem_of_getElem? (i := 73) (by decide +kernel)) rfl (by decide +kernel) rfl : e_Sn 173 7 (o_callV (e_s1 12 195 3) 3 10)) t_195_0 t_173_10
noncomputable def n_173_6 : e_Y := u_push (.inl 2147483649) n_173_7
theorem t_173_6 : e_Sn 173 6 (e_un n_173_6) := u_pushT (s_iconst (n := (1)) hq_173 (by decide +kernel) rfl ⟨by decide +kernel, by decide +kernel⟩ : e_Sn 173 6 (o_push (.inl 2147483649) 7)) t_173_7
noncomputable def n_173_3 : e_Y := u_callS 163 2 21 2 n_163_0 n_173_6
theorem t_173_3 : e_Sn 173 3 (e_un n_173_3) := u_callST rfl (s_callS (index := 288) hq_173 ho_173 hy_163 hp_163 hc_163 hi_163 hd_163 (List.mem_of_getElem? (i := 3006) (by decide +kernel)) hs_163 (by decide +kernel) rfl : e_Sn 173 3 (o_callS 163 2 2 6)) t_163_0 t_173_6
noncomputable def n_173_2 : e_Y := u_ld f_okI f_l2 n_173_3
theorem t_173_2 : e_Sn 173 2 (e_un n_173_2) := u_ldIT f_l2_eq (s_iload (i := .iload_n 2) (len := 1) hq_173 (by decide +kernel) rfl (.inr ⟨2, rfl, rfl, rfl⟩) : e_Sn 173 2 (o_load e_okI 2 3)) t_173_3
noncomputable def n_173_1 : e_Y := u_ld f_okI f_l1 n_173_2
theorem t_173_1 : e_Sn 173 1 (e_un n_173_1) := u_ldIT f_l1_eq (s_iload (i := .iload_n 1) (len := 1) hq_173 (by decide +kernel) rfl (.inr ⟨1, rfl, rfl, rfl⟩) : e_Sn 173 1 (o_load e_okI 1 2)) t_173_2
noncomputable def n_173_0 : e_Y := u_ld f_okA f_l0 n_173_1
theorem t_173_0 : e_Sn 173 0 (e_un n_173_0) := u_ldAT f_l0_eq (s_aload (i := .aload_n 0) (len := 1) hq_173 (by decide +kernel) rfl (.inr ⟨0, rfl, rfl, rfl⟩) : e_Sn 173 0 (o_load e_okR 0 1)) t_173_1
noncomputable def e_tb_173 : e_X := (e_br 27 (e_lf 0 (e_un n_173_0)) (e_lf 27 (e_un n_173_27)))
theorem e_tk_173 : e_Tb 173 e_tb_173 := (e_brT (e_lfT t_173_0) (e_lfT t_173_27))
theorem hq_175 : (e_ml[175]?).map (·.2.1) = some prog_14_method_47_code := rfl
theorem ho_175 : (e_ml[175]?).map (·.1.cls) = some "PlateroomprinterModel" := rfl
theorem hr_175 : (e_ml[175]?).map (·.2.2.2) = some (some .int) := rfl
noncomputable def n_175_58 : e_Y := u_retI
theorem t_175_58 : e_Sn 175 58 (e_un n_175_58) := u_retIT (s_iret hq_175 hr_175 (by decide +kernel) : e_Sn 175 58 (o_ret e_okI))
noncomputable def n_175_55 : e_Y := u_callV 12 176 3 22 3 n_176_0 n_175_58
theorem t_175_55 : e_Sn 175 55 (e_un n_175_55) := u_callVT rfl (s_callV (ci := 12) (C := er_12) (T := et_12) (N := 5) (index := 258) hq_175 ho_175 hy_176 hp_176 hc_176 hi_176 hd_176 (List.mem_of_getElem? (i := 2965) (by decide +kernel)) hs_176 (List.mem_of_getElem? (i := 125) (by decide +kernel)) rfl (by decide +kernel) rfl : e_Sn 175 55 (o_callV (e_s1 12 176 3) 3 58)) t_176_0 t_175_58
noncomputable def n_175_54 : e_Y := u_ld f_okI f_l2 n_175_55
theorem t_175_54 : e_Sn 175 54 (e_un n_175_54) := u_ldIT f_l2_eq (s_iload (i := .iload_n 2) (len := 1) hq_175 (by decide +kernel) rfl (.inr ⟨2, rfl, rfl, rfl⟩) : e_Sn 175 54 (o_load e_okI 2 55)) t_175_55
noncomputable def n_175_53 : e_Y := u_ld f_okI f_l1 n_175_54
theorem t_175_53 : e_Sn 175 53 (e_un n_175_53) := u_ldIT f_l1_eq (s_iload (i := .iload_n 1) (len := 1) hq_175 (by decide +kernel) rfl (.inr ⟨1, rfl, rfl, rfl⟩) : e_Sn 175 53 (o_load e_okI 1 54)) t_175_54
noncomputable def n_175_52 : e_Y := u_ld f_okA f_l0 n_175_53
theorem t_175_52 : e_Sn 175 52 (e_un n_175_52) := u_ldAT f_l0_eq (s_aload (i := .aload_n 0) (len := 1) hq_175 (by decide +kernel) rfl (.inr ⟨0, rfl, rfl, rfl⟩) : e_Sn 175 52 (o_load e_okR 0 53)) t_175_53
noncomputable def n_175_49 : e_Y := n_175_58
theorem t_175_49 : e_Sn 175 49 (e_un n_175_49) := u_gotoT (s_goto (off := (9)) hq_175 (by decide +kernel) rfl : e_Sn 175 49 (o_goto 58)) t_175_58
noncomputable def n_175_48 : e_Y := u_push (.inl 2147483648) n_175_49
theorem t_175_48 : e_Sn 175 48 (e_un n_175_48) := u_pushT (s_iconst (n := (0)) hq_175 (by decide +kernel) rfl ⟨by decide +kernel, by decide +kernel⟩ : e_Sn 175 48 (o_push (.inl 2147483648) 49)) t_175_49
noncomputable def n_175_45 : e_Y := u_if y_ne0 (u_old2 (o_ifeq 52 48) 52 n_175_52 n_175_48) n_175_52 n_175_48
theorem t_175_45 : e_Sn 175 45 (e_un n_175_45) := u_ifeqT rfl (s_ifeq (off := (7)) hq_175 (by decide +kernel) rfl rfl : e_Sn 175 45 (o_ifeq 52 48)) t_175_52 t_175_48
noncomputable def n_175_42 : e_Y := u_callV 12 187 3 22 3 n_187_0 n_175_45
theorem t_175_42 : e_Sn 175 42 (e_un n_175_42) := u_callVT rfl (s_callV (ci := 12) (C := er_12) (T := et_12) (N := 5) (index := 128) hq_175 ho_175 hy_187 hp_187 hc_187 hi_187 hd_187 (List.mem_of_getElem? (i := 1996) (by decide +kernel)) hs_187 (List.mem_of_getElem? (i := 74) (by decide +kernel)) rfl (by decide +kernel) rfl : e_Sn 175 42 (o_callV (e_s1 12 187 3) 3 45)) t_187_0 t_175_45
noncomputable def n_175_41 : e_Y := u_push (.inl 2147483650) n_175_42
theorem t_175_41 : e_Sn 175 41 (e_un n_175_41) := u_pushT (s_iconst (n := (2)) hq_175 (by decide +kernel) rfl ⟨by decide +kernel, by decide +kernel⟩ : e_Sn 175 41 (o_push (.inl 2147483650) 42)) t_175_42
noncomputable def n_175_40 : e_Y := u_push (.inl 2147483648) n_175_41
theorem t_175_40 : e_Sn 175 40 (e_un n_175_40) := u_pushT (s_iconst (n := (0)) hq_175 (by decide +kernel) rfl ⟨by decide +kernel, by decide +kernel⟩ : e_Sn 175 40 (o_push (.inl 2147483648) 41)) t_175_41
noncomputable def n_175_37 : e_Y := n_175_41
theorem t_175_37 : e_Sn 175 37 (e_un n_175_37) := u_gotoT (s_goto (off := (4)) hq_175 (by decide +kernel) rfl : e_Sn 175 37 (o_goto 41)) t_175_41
noncomputable def n_175_36 : e_Y := u_push (.inl 2147483649) n_175_37
theorem t_175_36 : e_Sn 175 36 (e_un n_175_36) := u_pushT (s_iconst (n := (1)) hq_175 (by decide +kernel) rfl ⟨by decide +kernel, by decide +kernel⟩ : e_Sn 175 36 (o_push (.inl 2147483649) 37)) t_175_37
noncomputable def n_175_33 : e_Y := u_if y_ne0 (u_old2 (o_ifeq 36 40) 36 n_175_36 n_175_40) n_175_36 n_175_40
theorem t_175_33 : e_Sn 175 33 (e_un n_175_33) := u_ifeqT rfl (s_ifne (off := (7)) hq_175 (by decide +kernel) rfl rfl : e_Sn 175 33 (o_ifeq 36 40)) t_175_36 t_175_40
noncomputable def n_175_30 : e_Y := u_callS 162 6 25 3 n_162_0 n_175_33
theorem t_175_30 : e_Sn 175 30 (e_un n_175_30) := u_callST rfl (s_callS (index := 136) hq_175 ho_175 hy_162 hp_162 hc_162 hi_162 hd_162 (List.mem_of_getElem? (i := 1987) (by decide +kernel)) hs_162 (by decide +kernel) rfl : e_Sn 175 30 (o_callS 162 6 3 33)) t_162_0 t_175_33
noncomputable def n_175_29 : e_Y := u_push (e_L 9223372036854775809) n_175_30
theorem t_175_29 : e_Sn 175 29 (e_un n_175_29) := u_pushT (s_lconst (n := 1) hq_175 (by decide +kernel) rfl ⟨by decide +kernel, by decide +kernel⟩ : e_Sn 175 29 (o_push (e_L 9223372036854775809) 30)) t_175_30
noncomputable def n_175_28 : e_Y := u_push (e_L 9223372036854775808) n_175_29
theorem t_175_28 : e_Sn 175 28 (e_un n_175_28) := u_pushT (s_lconst (n := 0) hq_175 (by decide +kernel) rfl ⟨by decide +kernel, by decide +kernel⟩ : e_Sn 175 28 (o_push (e_L 9223372036854775808) 29)) t_175_29
noncomputable def n_175_27 : e_Y := u_old (o_i2l 28) n_175_28
theorem t_175_27 : e_Sn 175 27 (e_un n_175_27) := u_oldT (s_i2l hq_175 (by decide +kernel) rfl : e_Sn 175 27 (o_i2l 28)) t_175_28 e_congr_i2l
noncomputable def n_175_26 : e_Y := u_ld f_okI f_l2 n_175_27
theorem t_175_26 : e_Sn 175 26 (e_un n_175_26) := u_ldIT f_l2_eq (s_iload (i := .iload_n 2) (len := 1) hq_175 (by decide +kernel) rfl (.inr ⟨2, rfl, rfl, rfl⟩) : e_Sn 175 26 (o_load e_okI 2 27)) t_175_27
noncomputable def n_175_25 : e_Y := u_ld f_okA f_l0 n_175_26
theorem t_175_25 : e_Sn 175 25 (e_un n_175_25) := u_ldAT f_l0_eq (s_aload (i := .aload_n 0) (len := 1) hq_175 (by decide +kernel) rfl (.inr ⟨0, rfl, rfl, rfl⟩) : e_Sn 175 25 (o_load e_okR 0 26)) t_175_26
noncomputable def n_175_22 : e_Y := u_if y_ne0 (u_old2 (o_ifeq 25 48) 25 n_175_25 n_175_48) n_175_25 n_175_48
theorem t_175_22 : e_Sn 175 22 (e_un n_175_22) := u_ifeqT rfl (s_ifne (off := (26)) hq_175 (by decide +kernel) rfl rfl : e_Sn 175 22 (o_ifeq 25 48)) t_175_25 t_175_48
noncomputable def n_175_19 : e_Y := u_callV 12 195 3 22 3 n_195_0 n_175_22
theorem t_175_19 : e_Sn 175 19 (e_un n_175_19) := u_callVT rfl (s_callV (ci := 12) (C := er_12) (T := et_12) (N := 5) (index := 148) hq_175 ho_175 hy_195 hp_195 hc_195 hi_195 hd_195 (List.mem_of_getElem? (i := 1992) (by decide +kernel)) hs_195 (List.mem_of_getElem? (i := 73) (by decide +kernel)) rfl (by decide +kernel) rfl : e_Sn 175 19 (o_callV (e_s1 12 195 3) 3 22)) t_195_0 t_175_22
noncomputable def n_175_18 : e_Y := u_push (.inl 2147483649) n_175_19
theorem t_175_18 : e_Sn 175 18 (e_un n_175_18) := u_pushT (s_iconst (n := (1)) hq_175 (by decide +kernel) rfl ⟨by decide +kernel, by decide +kernel⟩ : e_Sn 175 18 (o_push (.inl 2147483649) 19)) t_175_19
noncomputable def n_175_17 : e_Y := u_push (.inl 2147483648) n_175_18
theorem t_175_17 : e_Sn 175 17 (e_un n_175_17) := u_pushT (s_iconst (n := (0)) hq_175 (by decide +kernel) rfl ⟨by decide +kernel, by decide +kernel⟩ : e_Sn 175 17 (o_push (.inl 2147483648) 18)) t_175_18
noncomputable def n_175_14 : e_Y := n_175_18
theorem t_175_14 : e_Sn 175 14 (e_un n_175_14) := u_gotoT (s_goto (off := (4)) hq_175 (by decide +kernel) rfl : e_Sn 175 14 (o_goto 18)) t_175_18
noncomputable def n_175_13 : e_Y := u_push (.inl 2147483649) n_175_14
theorem t_175_13 : e_Sn 175 13 (e_un n_175_13) := u_pushT (s_iconst (n := (1)) hq_175 (by decide +kernel) rfl ⟨by decide +kernel, by decide +kernel⟩ : e_Sn 175 13 (o_push (.inl 2147483649) 14)) t_175_14
noncomputable def n_175_10 : e_Y := u_if y_ne0 (u_old2 (o_ifeq 13 17) 13 n_175_13 n_175_17) n_175_13 n_175_17
theorem t_175_10 : e_Sn 175 10 (e_un n_175_10) := u_ifeqT rfl (s_ifne (off := (7)) hq_175 (by decide +kernel) rfl rfl : e_Sn 175 10 (o_ifeq 13 17)) t_175_13 t_175_17
noncomputable def n_175_7 : e_Y := u_callS 162 6 25 3 n_162_0 n_175_10
theorem t_175_7 : e_Sn 175 7 (e_un n_175_7) := u_callST rfl (s_callS (index := 136) hq_175 ho_175 hy_162 hp_162 hc_162 hi_162 hd_162 (List.mem_of_getElem? (i := 1987) (by decide +kernel)) hs_162 (by decide +kernel) rfl : e_Sn 175 7 (o_callS 162 6 3 10)) t_162_0 t_175_10
noncomputable def n_175_4 : e_Y := u_push (e_L 9223372036854775813) n_175_7
theorem t_175_4 : e_Sn 175 4 (e_un n_175_4) := u_pushT (s_ldc2 (index := 256) (v := (5)) hq_175 ho_175 (List.mem_of_getElem? (i := 2964) (by decide +kernel)) (by decide +kernel) rfl ⟨by decide +kernel, by decide +kernel⟩ : e_Sn 175 4 (o_push (e_L 9223372036854775813) 7)) t_175_7
noncomputable def n_175_3 : e_Y := u_push (e_L 9223372036854775808) n_175_4
theorem t_175_3 : e_Sn 175 3 (e_un n_175_3) := u_pushT (s_lconst (n := 0) hq_175 (by decide +kernel) rfl ⟨by decide +kernel, by decide +kernel⟩ : e_Sn 175 3 (o_push (e_L 9223372036854775808) 4)) t_175_4
noncomputable def n_175_2 : e_Y := u_old (o_i2l 3) n_175_3
theorem t_175_2 : e_Sn 175 2 (e_un n_175_2) := u_oldT (s_i2l hq_175 (by decide +kernel) rfl : e_Sn 175 2 (o_i2l 3)) t_175_3 e_congr_i2l
noncomputable def n_175_1 : e_Y := u_ld f_okI f_l1 n_175_2
theorem t_175_1 : e_Sn 175 1 (e_un n_175_1) := u_ldIT f_l1_eq (s_iload (i := .iload_n 1) (len := 1) hq_175 (by decide +kernel) rfl (.inr ⟨1, rfl, rfl, rfl⟩) : e_Sn 175 1 (o_load e_okI 1 2)) t_175_2
noncomputable def n_175_0 : e_Y := u_ld f_okA f_l0 n_175_1
theorem t_175_0 : e_Sn 175 0 (e_un n_175_0) := u_ldAT f_l0_eq (s_aload (i := .aload_n 0) (len := 1) hq_175 (by decide +kernel) rfl (.inr ⟨0, rfl, rfl, rfl⟩) : e_Sn 175 0 (o_load e_okR 0 1)) t_175_1
noncomputable def e_tb_175 : e_X := (e_lf 0 (e_un n_175_0))
theorem e_tk_175 : e_Tb 175 e_tb_175 := (e_lfT t_175_0)
theorem hq_178 : (e_ml[178]?).map (·.2.1) = some prog_14_method_40_code := rfl
theorem ho_178 : (e_ml[178]?).map (·.1.cls) = some "PlateroomprinterModel" := rfl
theorem hr_178 : (e_ml[178]?).map (·.2.2.2) = some (some .int) := rfl
noncomputable def n_178_58 : e_Y := u_retI
theorem t_178_58 : e_Sn 178 58 (e_un n_178_58) := u_retIT (s_iret hq_178 hr_178 (by decide +kernel) : e_Sn 178 58 (o_ret e_okI))
noncomputable def n_178_55 : e_Y := u_callV 12 179 3 22 3 n_179_0 n_178_58
theorem t_178_55 : e_Sn 178 55 (e_un n_178_55) := u_callVT rfl (s_callV (ci := 12) (C := er_12) (T := et_12) (N := 5) (index := 199) hq_178 ho_178 hy_179 hp_179 hc_179 hi_179 hd_179 (List.mem_of_getElem? (i := 2933) (by decide +kernel)) hs_179 (List.mem_of_getElem? (i := 122) (by decide +kernel)) rfl (by decide +kernel) rfl : e_Sn 178 55 (o_callV (e_s1 12 179 3) 3 58)) t_179_0 t_178_58
noncomputable def n_178_54 : e_Y := u_ld f_okI f_l2 n_178_55
theorem t_178_54 : e_Sn 178 54 (e_un n_178_54) := u_ldIT f_l2_eq (s_iload (i := .iload_n 2) (len := 1) hq_178 (by decide +kernel) rfl (.inr ⟨2, rfl, rfl, rfl⟩) : e_Sn 178 54 (o_load e_okI 2 55)) t_178_55
noncomputable def n_178_53 : e_Y := u_ld f_okI f_l1 n_178_54
theorem t_178_53 : e_Sn 178 53 (e_un n_178_53) := u_ldIT f_l1_eq (s_iload (i := .iload_n 1) (len := 1) hq_178 (by decide +kernel) rfl (.inr ⟨1, rfl, rfl, rfl⟩) : e_Sn 178 53 (o_load e_okI 1 54)) t_178_54
noncomputable def n_178_52 : e_Y := u_ld f_okA f_l0 n_178_53
theorem t_178_52 : e_Sn 178 52 (e_un n_178_52) := u_ldAT f_l0_eq (s_aload (i := .aload_n 0) (len := 1) hq_178 (by decide +kernel) rfl (.inr ⟨0, rfl, rfl, rfl⟩) : e_Sn 178 52 (o_load e_okR 0 53)) t_178_53
noncomputable def n_178_49 : e_Y := n_178_58
theorem t_178_49 : e_Sn 178 49 (e_un n_178_49) := u_gotoT (s_goto (off := (9)) hq_178 (by decide +kernel) rfl : e_Sn 178 49 (o_goto 58)) t_178_58
noncomputable def n_178_48 : e_Y := u_push (.inl 2147483648) n_178_49
theorem t_178_48 : e_Sn 178 48 (e_un n_178_48) := u_pushT (s_iconst (n := (0)) hq_178 (by decide +kernel) rfl ⟨by decide +kernel, by decide +kernel⟩ : e_Sn 178 48 (o_push (.inl 2147483648) 49)) t_178_49
noncomputable def n_178_45 : e_Y := u_if y_ne0 (u_old2 (o_ifeq 52 48) 52 n_178_52 n_178_48) n_178_52 n_178_48
theorem t_178_45 : e_Sn 178 45 (e_un n_178_45) := u_ifeqT rfl (s_ifeq (off := (7)) hq_178 (by decide +kernel) rfl rfl : e_Sn 178 45 (o_ifeq 52 48)) t_178_52 t_178_48
noncomputable def n_178_42 : e_Y := u_callV 12 187 3 22 3 n_187_0 n_178_45
theorem t_178_42 : e_Sn 178 42 (e_un n_178_42) := u_callVT rfl (s_callV (ci := 12) (C := er_12) (T := et_12) (N := 5) (index := 128) hq_178 ho_178 hy_187 hp_187 hc_187 hi_187 hd_187 (List.mem_of_getElem? (i := 1996) (by decide +kernel)) hs_187 (List.mem_of_getElem? (i := 74) (by decide +kernel)) rfl (by decide +kernel) rfl : e_Sn 178 42 (o_callV (e_s1 12 187 3) 3 45)) t_187_0 t_178_45
noncomputable def n_178_41 : e_Y := u_push (.inl 2147483650) n_178_42
theorem t_178_41 : e_Sn 178 41 (e_un n_178_41) := u_pushT (s_iconst (n := (2)) hq_178 (by decide +kernel) rfl ⟨by decide +kernel, by decide +kernel⟩ : e_Sn 178 41 (o_push (.inl 2147483650) 42)) t_178_42
noncomputable def n_178_40 : e_Y := u_push (.inl 2147483648) n_178_41
theorem t_178_40 : e_Sn 178 40 (e_un n_178_40) := u_pushT (s_iconst (n := (0)) hq_178 (by decide +kernel) rfl ⟨by decide +kernel, by decide +kernel⟩ : e_Sn 178 40 (o_push (.inl 2147483648) 41)) t_178_41
noncomputable def n_178_37 : e_Y := n_178_41
theorem t_178_37 : e_Sn 178 37 (e_un n_178_37) := u_gotoT (s_goto (off := (4)) hq_178 (by decide +kernel) rfl : e_Sn 178 37 (o_goto 41)) t_178_41
noncomputable def n_178_36 : e_Y := u_push (.inl 2147483649) n_178_37
theorem t_178_36 : e_Sn 178 36 (e_un n_178_36) := u_pushT (s_iconst (n := (1)) hq_178 (by decide +kernel) rfl ⟨by decide +kernel, by decide +kernel⟩ : e_Sn 178 36 (o_push (.inl 2147483649) 37)) t_178_37
noncomputable def n_178_33 : e_Y := u_if y_ne0 (u_old2 (o_ifeq 36 40) 36 n_178_36 n_178_40) n_178_36 n_178_40
theorem t_178_33 : e_Sn 178 33 (e_un n_178_33) := u_ifeqT rfl (s_ifne (off := (7)) hq_178 (by decide +kernel) rfl rfl : e_Sn 178 33 (o_ifeq 36 40)) t_178_36 t_178_40
noncomputable def n_178_30 : e_Y := u_callS 162 6 25 3 n_162_0 n_178_33
theorem t_178_30 : e_Sn 178 30 (e_un n_178_30) := u_callST rfl (s_callS (index := 136) hq_178 ho_178 hy_162 hp_162 hc_162 hi_162 hd_162 (List.mem_of_getElem? (i := 1987) (by decide +kernel)) hs_162 (by decide +kernel) rfl : e_Sn 178 30 (o_callS 162 6 3 33)) t_162_0 t_178_33
noncomputable def n_178_29 : e_Y := u_push (e_L 9223372036854775809) n_178_30
theorem t_178_29 : e_Sn 178 29 (e_un n_178_29) := u_pushT (s_lconst (n := 1) hq_178 (by decide +kernel) rfl ⟨by decide +kernel, by decide +kernel⟩ : e_Sn 178 29 (o_push (e_L 9223372036854775809) 30)) t_178_30
noncomputable def n_178_28 : e_Y := u_push (e_L 9223372036854775808) n_178_29
theorem t_178_28 : e_Sn 178 28 (e_un n_178_28) := u_pushT (s_lconst (n := 0) hq_178 (by decide +kernel) rfl ⟨by decide +kernel, by decide +kernel⟩ : e_Sn 178 28 (o_push (e_L 9223372036854775808) 29)) t_178_29
noncomputable def n_178_27 : e_Y := u_old (o_i2l 28) n_178_28
theorem t_178_27 : e_Sn 178 27 (e_un n_178_27) := u_oldT (s_i2l hq_178 (by decide +kernel) rfl : e_Sn 178 27 (o_i2l 28)) t_178_28 e_congr_i2l
noncomputable def n_178_26 : e_Y := u_ld f_okI f_l2 n_178_27
theorem t_178_26 : e_Sn 178 26 (e_un n_178_26) := u_ldIT f_l2_eq (s_iload (i := .iload_n 2) (len := 1) hq_178 (by decide +kernel) rfl (.inr ⟨2, rfl, rfl, rfl⟩) : e_Sn 178 26 (o_load e_okI 2 27)) t_178_27
noncomputable def n_178_25 : e_Y := u_ld f_okA f_l0 n_178_26
theorem t_178_25 : e_Sn 178 25 (e_un n_178_25) := u_ldAT f_l0_eq (s_aload (i := .aload_n 0) (len := 1) hq_178 (by decide +kernel) rfl (.inr ⟨0, rfl, rfl, rfl⟩) : e_Sn 178 25 (o_load e_okR 0 26)) t_178_26
noncomputable def n_178_22 : e_Y := u_if y_ne0 (u_old2 (o_ifeq 25 48) 25 n_178_25 n_178_48) n_178_25 n_178_48
theorem t_178_22 : e_Sn 178 22 (e_un n_178_22) := u_ifeqT rfl (s_ifne (off := (26)) hq_178 (by decide +kernel) rfl rfl : e_Sn 178 22 (o_ifeq 25 48)) t_178_25 t_178_48
noncomputable def n_178_19 : e_Y := u_callV 12 195 3 22 3 n_195_0 n_178_22
theorem t_178_19 : e_Sn 178 19 (e_un n_178_19) := u_callVT rfl (s_callV (ci := 12) (C := er_12) (T := et_12) (N := 5) (index := 148) hq_178 ho_178 hy_195 hp_195 hc_195 hi_195 hd_195 (List.mem_of_getElem? (i := 1992) (by decide +kernel)) hs_195 (List.mem_of_getElem? (i := 73) (by decide +kernel)) rfl (by decide +kernel) rfl : e_Sn 178 19 (o_callV (e_s1 12 195 3) 3 22)) t_195_0 t_178_22
noncomputable def n_178_18 : e_Y := u_push (.inl 2147483649) n_178_19
theorem t_178_18 : e_Sn 178 18 (e_un n_178_18) := u_pushT (s_iconst (n := (1)) hq_178 (by decide +kernel) rfl ⟨by decide +kernel, by decide +kernel⟩ : e_Sn 178 18 (o_push (.inl 2147483649) 19)) t_178_19
noncomputable def n_178_17 : e_Y := u_push (.inl 2147483648) n_178_18
theorem t_178_17 : e_Sn 178 17 (e_un n_178_17) := u_pushT (s_iconst (n := (0)) hq_178 (by decide +kernel) rfl ⟨by decide +kernel, by decide +kernel⟩ : e_Sn 178 17 (o_push (.inl 2147483648) 18)) t_178_18
noncomputable def n_178_14 : e_Y := n_178_18
theorem t_178_14 : e_Sn 178 14 (e_un n_178_14) := u_gotoT (s_goto (off := (4)) hq_178 (by decide +kernel) rfl : e_Sn 178 14 (o_goto 18)) t_178_18
noncomputable def n_178_13 : e_Y := u_push (.inl 2147483649) n_178_14
theorem t_178_13 : e_Sn 178 13 (e_un n_178_13) := u_pushT (s_iconst (n := (1)) hq_178 (by decide +kernel) rfl ⟨by decide +kernel, by decide +kernel⟩ : e_Sn 178 13 (o_push (.inl 2147483649) 14)) t_178_14
noncomputable def n_178_10 : e_Y := u_if y_ne0 (u_old2 (o_ifeq 13 17) 13 n_178_13 n_178_17) n_178_13 n_178_17
theorem t_178_10 : e_Sn 178 10 (e_un n_178_10) := u_ifeqT rfl (s_ifne (off := (7)) hq_178 (by decide +kernel) rfl rfl : e_Sn 178 10 (o_ifeq 13 17)) t_178_13 t_178_17
noncomputable def n_178_7 : e_Y := u_callS 162 6 25 3 n_162_0 n_178_10
theorem t_178_7 : e_Sn 178 7 (e_un n_178_7) := u_callST rfl (s_callS (index := 136) hq_178 ho_178 hy_162 hp_162 hc_162 hi_162 hd_162 (List.mem_of_getElem? (i := 1987) (by decide +kernel)) hs_162 (by decide +kernel) rfl : e_Sn 178 7 (o_callS 162 6 3 10)) t_162_0 t_178_10
noncomputable def n_178_4 : e_Y := u_push (e_L 9223372036854775817) n_178_7
theorem t_178_4 : e_Sn 178 4 (e_un n_178_4) := u_pushT (s_ldc2 (index := 142) (v := (9)) hq_178 ho_178 (List.mem_of_getElem? (i := 1991) (by decide +kernel)) (by decide +kernel) rfl ⟨by decide +kernel, by decide +kernel⟩ : e_Sn 178 4 (o_push (e_L 9223372036854775817) 7)) t_178_7
noncomputable def n_178_3 : e_Y := u_push (e_L 9223372036854775808) n_178_4
theorem t_178_3 : e_Sn 178 3 (e_un n_178_3) := u_pushT (s_lconst (n := 0) hq_178 (by decide +kernel) rfl ⟨by decide +kernel, by decide +kernel⟩ : e_Sn 178 3 (o_push (e_L 9223372036854775808) 4)) t_178_4
noncomputable def n_178_2 : e_Y := u_old (o_i2l 3) n_178_3
theorem t_178_2 : e_Sn 178 2 (e_un n_178_2) := u_oldT (s_i2l hq_178 (by decide +kernel) rfl : e_Sn 178 2 (o_i2l 3)) t_178_3 e_congr_i2l
noncomputable def n_178_1 : e_Y := u_ld f_okI f_l1 n_178_2
theorem t_178_1 : e_Sn 178 1 (e_un n_178_1) := u_ldIT f_l1_eq (s_iload (i := .iload_n 1) (len := 1) hq_178 (by decide +kernel) rfl (.inr ⟨1, rfl, rfl, rfl⟩) : e_Sn 178 1 (o_load e_okI 1 2)) t_178_2
noncomputable def n_178_0 : e_Y := u_ld f_okA f_l0 n_178_1
theorem t_178_0 : e_Sn 178 0 (e_un n_178_0) := u_ldAT f_l0_eq (s_aload (i := .aload_n 0) (len := 1) hq_178 (by decide +kernel) rfl (.inr ⟨0, rfl, rfl, rfl⟩) : e_Sn 178 0 (o_load e_okR 0 1)) t_178_1
noncomputable def e_tb_178 : e_X := (e_lf 0 (e_un n_178_0))
theorem e_tk_178 : e_Tb 178 e_tb_178 := (e_lfT t_178_0)
theorem hq_181 : (e_ml[181]?).map (·.2.1) = some prog_14_method_80_code := rfl
theorem ho_181 : (e_ml[181]?).map (·.1.cls) = some "PlateroomprinterModel" := rfl
theorem hr_181 : (e_ml[181]?).map (·.2.2.2) = some (some .int) := rfl
noncomputable def n_181_34 : e_Y := u_retI
theorem t_181_34 : e_Sn 181 34 (e_un n_181_34) := u_retIT (s_iret hq_181 hr_181 (by decide +kernel) : e_Sn 181 34 (o_ret e_okI))
noncomputable def n_181_31 : e_Y := u_callV 12 182 4 23 2 n_182_0 n_181_34
theorem t_181_31 : e_Sn 181 31 (e_un n_181_31) := u_callVT rfl (s_callV (ci := 12) (C := er_12) (T := et_12) (N := 5) (index := 367) hq_181 ho_181 hy_182 hp_182 hc_182 hi_182 hd_182 (List.mem_of_getElem? (i := 3130) (by decide +kernel)) hs_182 (List.mem_of_getElem? (i := 135) (by decide +kernel)) rfl (by decide +kernel) rfl : e_Sn 181 31 (o_callV (e_s1 12 182 4) 2 34)) t_182_0 t_181_34
noncomputable def n_181_30 : e_Y := u_ld f_okI f_l1 n_181_31
theorem t_181_30 : e_Sn 181 30 (e_un n_181_30) := u_ldIT f_l1_eq (s_iload (i := .iload_n 1) (len := 1) hq_181 (by decide +kernel) rfl (.inr ⟨1, rfl, rfl, rfl⟩) : e_Sn 181 30 (o_load e_okI 1 31)) t_181_31
noncomputable def n_181_29 : e_Y := u_ld f_okA f_l0 n_181_30
theorem t_181_29 : e_Sn 181 29 (e_un n_181_29) := u_ldAT f_l0_eq (s_aload (i := .aload_n 0) (len := 1) hq_181 (by decide +kernel) rfl (.inr ⟨0, rfl, rfl, rfl⟩) : e_Sn 181 29 (o_load e_okR 0 30)) t_181_30
noncomputable def n_181_26 : e_Y := n_181_34
theorem t_181_26 : e_Sn 181 26 (e_un n_181_26) := u_gotoT (s_goto (off := (8)) hq_181 (by decide +kernel) rfl : e_Sn 181 26 (o_goto 34)) t_181_34
noncomputable def n_181_25 : e_Y := u_push (.inl 2147483648) n_181_26
theorem t_181_25 : e_Sn 181 25 (e_un n_181_25) := u_pushT (s_iconst (n := (0)) hq_181 (by decide +kernel) rfl ⟨by decide +kernel, by decide +kernel⟩ : e_Sn 181 25 (o_push (.inl 2147483648) 26)) t_181_26
noncomputable def n_181_22 : e_Y := u_if y_ne0 (u_old2 (o_ifeq 29 25) 29 n_181_29 n_181_25) n_181_29 n_181_25
theorem t_181_22 : e_Sn 181 22 (e_un n_181_22) := u_ifeqT rfl (s_ifeq (off := (7)) hq_181 (by decide +kernel) rfl rfl : e_Sn 181 22 (o_ifeq 29 25)) t_181_29 t_181_25
noncomputable def n_181_19 : e_Y := u_callV 12 195 3 22 3 n_195_0 n_181_22
theorem t_181_19 : e_Sn 181 19 (e_un n_181_19) := u_callVT rfl (s_callV (ci := 12) (C := er_12) (T := et_12) (N := 5) (index := 148) hq_181 ho_181 hy_195 hp_195 hc_195 hi_195 hd_195 (List.mem_of_getElem? (i := 1992) (by decide +kernel)) hs_195 (List.mem_of_getElem? (i := 73) (by decide +kernel)) rfl (by decide +kernel) rfl : e_Sn 181 19 (o_callV (e_s1 12 195 3) 3 22)) t_195_0 t_181_22
noncomputable def n_181_18 : e_Y := u_push (.inl 2147483649) n_181_19
theorem t_181_18 : e_Sn 181 18 (e_un n_181_18) := u_pushT (s_iconst (n := (1)) hq_181 (by decide +kernel) rfl ⟨by decide +kernel, by decide +kernel⟩ : e_Sn 181 18 (o_push (.inl 2147483649) 19)) t_181_19
noncomputable def n_181_17 : e_Y := u_push (.inl 2147483648) n_181_18
theorem t_181_17 : e_Sn 181 17 (e_un n_181_17) := u_pushT (s_iconst (n := (0)) hq_181 (by decide +kernel) rfl ⟨by decide +kernel, by decide +kernel⟩ : e_Sn 181 17 (o_push (.inl 2147483648) 18)) t_181_18
noncomputable def n_181_14 : e_Y := n_181_18
theorem t_181_14 : e_Sn 181 14 (e_un n_181_14) := u_gotoT (s_goto (off := (4)) hq_181 (by decide +kernel) rfl : e_Sn 181 14 (o_goto 18)) t_181_18
noncomputable def n_181_13 : e_Y := u_push (.inl 2147483649) n_181_14
theorem t_181_13 : e_Sn 181 13 (e_un n_181_13) := u_pushT (s_iconst (n := (1)) hq_181 (by decide +kernel) rfl ⟨by decide +kernel, by decide +kernel⟩ : e_Sn 181 13 (o_push (.inl 2147483649) 14)) t_181_14
noncomputable def n_181_10 : e_Y := u_if y_ne0 (u_old2 (o_ifeq 13 17) 13 n_181_13 n_181_17) n_181_13 n_181_17
theorem t_181_10 : e_Sn 181 10 (e_un n_181_10) := u_ifeqT rfl (s_ifne (off := (7)) hq_181 (by decide +kernel) rfl rfl : e_Sn 181 10 (o_ifeq 13 17)) t_181_13 t_181_17
noncomputable def n_181_7 : e_Y := u_callS 162 6 25 3 n_162_0 n_181_10
theorem t_181_7 : e_Sn 181 7 (e_un n_181_7) := u_callST rfl (s_callS (index := 136) hq_181 ho_181 hy_162 hp_162 hc_162 hi_162 hd_162 (List.mem_of_getElem? (i := 1987) (by decide +kernel)) hs_162 (by decide +kernel) rfl : e_Sn 181 7 (o_callS 162 6 3 10)) t_162_0 t_181_10
noncomputable def n_181_4 : e_Y := u_push (e_L 9223372036854775813) n_181_7
theorem t_181_4 : e_Sn 181 4 (e_un n_181_4) := u_pushT (s_ldc2 (index := 256) (v := (5)) hq_181 ho_181 (List.mem_of_getElem? (i := 2964) (by decide +kernel)) (by decide +kernel) rfl ⟨by decide +kernel, by decide +kernel⟩ : e_Sn 181 4 (o_push (e_L 9223372036854775813) 7)) t_181_7
noncomputable def n_181_3 : e_Y := u_push (e_L 9223372036854775808) n_181_4
theorem t_181_3 : e_Sn 181 3 (e_un n_181_3) := u_pushT (s_lconst (n := 0) hq_181 (by decide +kernel) rfl ⟨by decide +kernel, by decide +kernel⟩ : e_Sn 181 3 (o_push (e_L 9223372036854775808) 4)) t_181_4
noncomputable def n_181_2 : e_Y := u_old (o_i2l 3) n_181_3
theorem t_181_2 : e_Sn 181 2 (e_un n_181_2) := u_oldT (s_i2l hq_181 (by decide +kernel) rfl : e_Sn 181 2 (o_i2l 3)) t_181_3 e_congr_i2l
noncomputable def n_181_1 : e_Y := u_ld f_okI f_l1 n_181_2
theorem t_181_1 : e_Sn 181 1 (e_un n_181_1) := u_ldIT f_l1_eq (s_iload (i := .iload_n 1) (len := 1) hq_181 (by decide +kernel) rfl (.inr ⟨1, rfl, rfl, rfl⟩) : e_Sn 181 1 (o_load e_okI 1 2)) t_181_2
noncomputable def n_181_0 : e_Y := u_ld f_okA f_l0 n_181_1
theorem t_181_0 : e_Sn 181 0 (e_un n_181_0) := u_ldAT f_l0_eq (s_aload (i := .aload_n 0) (len := 1) hq_181 (by decide +kernel) rfl (.inr ⟨0, rfl, rfl, rfl⟩) : e_Sn 181 0 (o_load e_okR 0 1)) t_181_1
noncomputable def e_tb_181 : e_X := (e_lf 0 (e_un n_181_0))
theorem e_tk_181 : e_Tb 181 e_tb_181 := (e_lfT t_181_0)
theorem hq_185 : (e_ml[185]?).map (·.2.1) = some prog_14_method_53_code := rfl
theorem ho_185 : (e_ml[185]?).map (·.1.cls) = some "PlateroomprinterModel" := rfl
theorem hr_185 : (e_ml[185]?).map (·.2.2.2) = some (some .int) := rfl
noncomputable def n_185_64 : e_Y := u_retI
theorem t_185_64 : e_Sn 185 64 (e_un n_185_64) := u_retIT (s_iret hq_185 hr_185 (by decide +kernel) : e_Sn 185 64 (o_ret e_okI))
noncomputable def n_185_38 : e_Y := n_185_64
theorem t_185_38 : e_Sn 185 38 (e_un n_185_38) := u_gotoT (s_goto (off := (26)) hq_185 (by decide +kernel) rfl : e_Sn 185 38 (o_goto 64)) t_185_64
noncomputable def n_185_37 : e_Y := u_push (.inl 2147483648) n_185_38
theorem t_185_37 : e_Sn 185 37 (e_un n_185_37) := u_pushT (s_iconst (n := (0)) hq_185 (by decide +kernel) rfl ⟨by decide +kernel, by decide +kernel⟩ : e_Sn 185 37 (o_push (.inl 2147483648) 38)) t_185_38
noncomputable def n_185_11 : e_Y := u_if y_ne0 (u_old2 (o_ifeq 14 37) 14 (u_at 14) n_185_37) (u_at 14) n_185_37
theorem t_185_11 : e_Sn 185 11 (e_un n_185_11) := u_ifeqT rfl (s_ifne (off := (26)) hq_185 (by decide +kernel) rfl rfl : e_Sn 185 11 (o_ifeq 14 37)) u_atT t_185_37
noncomputable def n_185_8 : e_Y := u_callV 12 195 3 22 3 n_195_0 n_185_11
theorem t_185_8 : e_Sn 185 8 (e_un n_185_8) := u_callVT rfl (s_callV (ci := 12) (C := er_12) (T := et_12) (N := 5) (index := 148) hq_185 ho_185 hy_195 hp_195 hc_195 hi_195 hd_195 (List.mem_of_getElem? (i := 1992) (by decide +kernel)) hs_195 (List.mem_of_getElem? (i := 73) (by decide +kernel)) rfl (by decide +kernel) rfl : e_Sn 185 8 (o_callV (e_s1 12 195 3) 3 11)) t_195_0 t_185_11
noncomputable def n_185_7 : e_Y := u_push (.inl 2147483649) n_185_8
theorem t_185_7 : e_Sn 185 7 (e_un n_185_7) := u_pushT (s_iconst (n := (1)) hq_185 (by decide +kernel) rfl ⟨by decide +kernel, by decide +kernel⟩ : e_Sn 185 7 (o_push (.inl 2147483649) 8)) t_185_8
noncomputable def n_185_4 : e_Y := u_callV 12 165 3 22 3 n_165_0 n_185_7
theorem t_185_4 : e_Sn 185 4 (e_un n_185_4) := u_callVT rfl (s_callV (ci := 12) (C := er_12) (T := et_12) (N := 5) (index := 275) hq_185 ho_185 hy_165 hp_165 hc_165 hi_165 hd_165 (List.mem_of_getElem? (i := 2989) (by decide +kernel)) hs_165 (List.mem_of_getElem? (i := 129) (by decide +kernel)) rfl (by decide +kernel) rfl : e_Sn 185 4 (o_callV (e_s1 12 165 3) 3 7)) t_165_0 t_185_7
noncomputable def n_185_3 : e_Y := u_ld f_okI f_l2 n_185_4
theorem t_185_3 : e_Sn 185 3 (e_un n_185_3) := u_ldIT f_l2_eq (s_iload (i := .iload_n 2) (len := 1) hq_185 (by decide +kernel) rfl (.inr ⟨2, rfl, rfl, rfl⟩) : e_Sn 185 3 (o_load e_okI 2 4)) t_185_4
noncomputable def n_185_2 : e_Y := u_ld f_okI f_l1 n_185_3
theorem t_185_2 : e_Sn 185 2 (e_un n_185_2) := u_ldIT f_l1_eq (s_iload (i := .iload_n 1) (len := 1) hq_185 (by decide +kernel) rfl (.inr ⟨1, rfl, rfl, rfl⟩) : e_Sn 185 2 (o_load e_okI 1 3)) t_185_3
noncomputable def n_185_1 : e_Y := u_ld f_okA f_l0 n_185_2
theorem t_185_1 : e_Sn 185 1 (e_un n_185_1) := u_ldAT f_l0_eq (s_aload (i := .aload_n 0) (len := 1) hq_185 (by decide +kernel) rfl (.inr ⟨0, rfl, rfl, rfl⟩) : e_Sn 185 1 (o_load e_okR 0 2)) t_185_2
noncomputable def n_185_0 : e_Y := u_ld f_okA f_l0 n_185_1
theorem t_185_0 : e_Sn 185 0 (e_un n_185_0) := u_ldAT f_l0_eq (s_aload (i := .aload_n 0) (len := 1) hq_185 (by decide +kernel) rfl (.inr ⟨0, rfl, rfl, rfl⟩) : e_Sn 185 0 (o_load e_okR 0 1)) t_185_1
noncomputable def e_tb_185 : e_X := (e_lf 0 (e_un n_185_0))
theorem e_tk_185 : e_Tb 185 e_tb_185 := (e_lfT t_185_0)
theorem hq_188 : (e_ml[188]?).map (·.2.1) = some prog_14_method_51_code := rfl
theorem ho_188 : (e_ml[188]?).map (·.1.cls) = some "PlateroomprinterModel" := rfl
theorem hr_188 : (e_ml[188]?).map (·.2.2.2) = some (some .int) := rfl
noncomputable def n_188_46 : e_Y := u_retI
theorem t_188_46 : e_Sn 188 46 (e_un n_188_46) := u_retIT (s_iret hq_188 hr_188 (by decide +kernel) : e_Sn 188 46 (o_ret e_okI))
noncomputable def n_188_37 : e_Y := n_188_46
theorem t_188_37 : e_Sn 188 37 (e_un n_188_37) := u_gotoT (s_goto (off := (9)) hq_188 (by decide +kernel) rfl : e_Sn 188 37 (o_goto 46)) t_188_46
noncomputable def n_188_36 : e_Y := u_push (.inl 2147483648) n_188_37
theorem t_188_36 : e_Sn 188 36 (e_un n_188_36) := u_pushT (s_iconst (n := (0)) hq_188 (by decide +kernel) rfl ⟨by decide +kernel, by decide +kernel⟩ : e_Sn 188 36 (o_push (.inl 2147483648) 37)) t_188_37
noncomputable def n_188_10 : e_Y := u_if y_ne0 (u_old2 (o_ifeq 13 36) 13 (u_at 13) n_188_36) (u_at 13) n_188_36
theorem t_188_10 : e_Sn 188 10 (e_un n_188_10) := u_ifeqT rfl (s_ifne (off := (26)) hq_188 (by decide +kernel) rfl rfl : e_Sn 188 10 (o_ifeq 13 36)) u_atT t_188_36
noncomputable def n_188_7 : e_Y := u_callV 12 195 3 22 3 n_195_0 n_188_10
theorem t_188_7 : e_Sn 188 7 (e_un n_188_7) := u_callVT rfl (s_callV (ci := 12) (C := er_12) (T := et_12) (N := 5) (index := 148) hq_188 ho_188 hy_195 hp_195 hc_195 hi_195 hd_195 (List.mem_of_getElem? (i := 1992) (by decide +kernel)) hs_195 (List.mem_of_getElem? (i := 73) (by decide +kernel)) rfl (by decide +kernel) rfl : e_Sn 188 7 (o_callV (e_s1 12 195 3) 3 10)) t_195_0 t_188_10
noncomputable def n_188_6 : e_Y := u_push (.inl 2147483649) n_188_7
theorem t_188_6 : e_Sn 188 6 (e_un n_188_6) := u_pushT (s_iconst (n := (1)) hq_188 (by decide +kernel) rfl ⟨by decide +kernel, by decide +kernel⟩ : e_Sn 188 6 (o_push (.inl 2147483649) 7)) t_188_7
noncomputable def n_188_3 : e_Y := u_callV 12 166 2 21 2 n_166_0 n_188_6
theorem t_188_3 : e_Sn 188 3 (e_un n_188_3) := u_callVT rfl (s_callV (ci := 12) (C := er_12) (T := et_12) (N := 5) (index := 268) hq_188 ho_188 hy_166 hp_166 hc_166 hi_166 hd_166 (List.mem_of_getElem? (i := 2973) (by decide +kernel)) hs_166 (List.mem_of_getElem? (i := 126) (by decide +kernel)) rfl (by decide +kernel) rfl : e_Sn 188 3 (o_callV (e_s1 12 166 2) 2 6)) t_166_0 t_188_6
noncomputable def n_188_2 : e_Y := u_ld f_okI f_l1 n_188_3
theorem t_188_2 : e_Sn 188 2 (e_un n_188_2) := u_ldIT f_l1_eq (s_iload (i := .iload_n 1) (len := 1) hq_188 (by decide +kernel) rfl (.inr ⟨1, rfl, rfl, rfl⟩) : e_Sn 188 2 (o_load e_okI 1 3)) t_188_3
noncomputable def n_188_1 : e_Y := u_ld f_okA f_l0 n_188_2
theorem t_188_1 : e_Sn 188 1 (e_un n_188_1) := u_ldAT f_l0_eq (s_aload (i := .aload_n 0) (len := 1) hq_188 (by decide +kernel) rfl (.inr ⟨0, rfl, rfl, rfl⟩) : e_Sn 188 1 (o_load e_okR 0 2)) t_188_2
noncomputable def n_188_0 : e_Y := u_ld f_okA f_l0 n_188_1
theorem t_188_0 : e_Sn 188 0 (e_un n_188_0) := u_ldAT f_l0_eq (s_aload (i := .aload_n 0) (len := 1) hq_188 (by decide +kernel) rfl (.inr ⟨0, rfl, rfl, rfl⟩) : e_Sn 188 0 (o_load e_okR 0 1)) t_188_1
noncomputable def e_tb_188 : e_X := (e_lf 0 (e_un n_188_0))
theorem e_tk_188 : e_Tb 188 e_tb_188 := (e_lfT t_188_0)
theorem hq_189 : (e_ml[189]?).map (·.2.1) = some prog_14_method_72_code := rfl
theorem ho_189 : (e_ml[189]?).map (·.1.cls) = some "PlateroomprinterModel" := rfl
theorem hr_189 : (e_ml[189]?).map (·.2.2.2) = some (some .int) := rfl
noncomputable def n_189_42 : e_Y := u_retI
theorem t_189_42 : e_Sn 189 42 (e_un n_189_42) := u_retIT (s_iret hq_189 hr_189 (by decide +kernel) : e_Sn 189 42 (o_ret e_okI))
noncomputable def n_189_39 : e_Y := u_callV 12 190 5 24 3 n_190_0 n_189_42
theorem t_189_39 : e_Sn 189 39 (e_un n_189_39) := u_callVT rfl (s_callV (ci := 12) (C := er_12) (T := et_12) (N := 5) (index := 336) hq_189 ho_189 hy_190 hp_190 hc_190 hi_190 hd_190 (List.mem_of_getElem? (i := 3071) (by decide +kernel)) hs_190 (List.mem_of_getElem? (i := 133) (by decide +kernel)) rfl (by decide +kernel) rfl : e_Sn 189 39 (o_callV (e_s1 12 190 5) 3 42)) t_190_0 t_189_42
noncomputable def n_189_38 : e_Y := u_ld f_okI f_l2 n_189_39
theorem t_189_38 : e_Sn 189 38 (e_un n_189_38) := u_ldIT f_l2_eq (s_iload (i := .iload_n 2) (len := 1) hq_189 (by decide +kernel) rfl (.inr ⟨2, rfl, rfl, rfl⟩) : e_Sn 189 38 (o_load e_okI 2 39)) t_189_39
noncomputable def n_189_37 : e_Y := u_ld f_okI f_l1 n_189_38
theorem t_189_37 : e_Sn 189 37 (e_un n_189_37) := u_ldIT f_l1_eq (s_iload (i := .iload_n 1) (len := 1) hq_189 (by decide +kernel) rfl (.inr ⟨1, rfl, rfl, rfl⟩) : e_Sn 189 37 (o_load e_okI 1 38)) t_189_38
noncomputable def n_189_36 : e_Y := u_ld f_okA f_l0 n_189_37
theorem t_189_36 : e_Sn 189 36 (e_un n_189_36) := u_ldAT f_l0_eq (s_aload (i := .aload_n 0) (len := 1) hq_189 (by decide +kernel) rfl (.inr ⟨0, rfl, rfl, rfl⟩) : e_Sn 189 36 (o_load e_okR 0 37)) t_189_37
noncomputable def n_189_33 : e_Y := n_189_42
theorem t_189_33 : e_Sn 189 33 (e_un n_189_33) := u_gotoT (s_goto (off := (9)) hq_189 (by decide +kernel) rfl : e_Sn 189 33 (o_goto 42)) t_189_42
noncomputable def n_189_32 : e_Y := u_push (.inl 2147483648) n_189_33
theorem t_189_32 : e_Sn 189 32 (e_un n_189_32) := u_pushT (s_iconst (n := (0)) hq_189 (by decide +kernel) rfl ⟨by decide +kernel, by decide +kernel⟩ : e_Sn 189 32 (o_push (.inl 2147483648) 33)) t_189_33
noncomputable def n_189_29 : e_Y := u_if y_ne0 (u_old2 (o_ifeq 36 32) 36 n_189_36 n_189_32) n_189_36 n_189_32
theorem t_189_29 : e_Sn 189 29 (e_un n_189_29) := u_ifeqT rfl (s_ifeq (off := (7)) hq_189 (by decide +kernel) rfl rfl : e_Sn 189 29 (o_ifeq 36 32)) t_189_36 t_189_32
noncomputable def n_189_26 : e_Y := u_callV 12 195 3 22 3 n_195_0 n_189_29
theorem t_189_26 : e_Sn 189 26 (e_un n_189_26) := u_callVT rfl (s_callV (ci := 12) (C := er_12) (T := et_12) (N := 5) (index := 148) hq_189 ho_189 hy_195 hp_195 hc_195 hi_195 hd_195 (List.mem_of_getElem? (i := 1992) (by decide +kernel)) hs_195 (List.mem_of_getElem? (i := 73) (by decide +kernel)) rfl (by decide +kernel) rfl : e_Sn 189 26 (o_callV (e_s1 12 195 3) 3 29)) t_195_0 t_189_29
noncomputable def n_189_25 : e_Y := u_push (.inl 2147483649) n_189_26
theorem t_189_25 : e_Sn 189 25 (e_un n_189_25) := u_pushT (s_iconst (n := (1)) hq_189 (by decide +kernel) rfl ⟨by decide +kernel, by decide +kernel⟩ : e_Sn 189 25 (o_push (.inl 2147483649) 26)) t_189_26
noncomputable def n_189_24 : e_Y := u_push (.inl 2147483648) n_189_25
theorem t_189_24 : e_Sn 189 24 (e_un n_189_24) := u_pushT (s_iconst (n := (0)) hq_189 (by decide +kernel) rfl ⟨by decide +kernel, by decide +kernel⟩ : e_Sn 189 24 (o_push (.inl 2147483648) 25)) t_189_25
noncomputable def n_189_21 : e_Y := n_189_25
theorem t_189_21 : e_Sn 189 21 (e_un n_189_21) := u_gotoT (s_goto (off := (4)) hq_189 (by decide +kernel) rfl : e_Sn 189 21 (o_goto 25)) t_189_25
noncomputable def n_189_20 : e_Y := u_push (.inl 2147483649) n_189_21
theorem t_189_20 : e_Sn 189 20 (e_un n_189_20) := u_pushT (s_iconst (n := (1)) hq_189 (by decide +kernel) rfl ⟨by decide +kernel, by decide +kernel⟩ : e_Sn 189 20 (o_push (.inl 2147483649) 21)) t_189_21
noncomputable def n_189_17 : e_Y := u_if y_ne0 (u_old2 (o_ifeq 20 24) 20 n_189_20 n_189_24) n_189_20 n_189_24
theorem t_189_17 : e_Sn 189 17 (e_un n_189_17) := u_ifeqT rfl (s_ifne (off := (7)) hq_189 (by decide +kernel) rfl rfl : e_Sn 189 17 (o_ifeq 20 24)) t_189_20 t_189_24
noncomputable def n_189_14 : e_Y := u_callS 162 6 25 3 n_162_0 n_189_17
theorem t_189_14 : e_Sn 189 14 (e_un n_189_14) := u_callST rfl (s_callS (index := 136) hq_189 ho_189 hy_162 hp_162 hc_162 hi_162 hd_162 (List.mem_of_getElem? (i := 1987) (by decide +kernel)) hs_162 (by decide +kernel) rfl : e_Sn 189 14 (o_callS 162 6 3 17)) t_162_0 t_189_17
noncomputable def n_189_11 : e_Y := u_push (e_L 9223372036854775839) n_189_14
theorem t_189_11 : e_Sn 189 11 (e_un n_189_11) := u_pushT (s_ldc2 (index := 286) (v := (31)) hq_189 ho_189 (List.mem_of_getElem? (i := 3009) (by decide +kernel)) (by decide +kernel) rfl ⟨by decide +kernel, by decide +kernel⟩ : e_Sn 189 11 (o_push (e_L 9223372036854775839) 14)) t_189_14
noncomputable def n_189_10 : e_Y := u_push (e_L 9223372036854775808) n_189_11
theorem t_189_10 : e_Sn 189 10 (e_un n_189_10) := u_pushT (s_lconst (n := 0) hq_189 (by decide +kernel) rfl ⟨by decide +kernel, by decide +kernel⟩ : e_Sn 189 10 (o_push (e_L 9223372036854775808) 11)) t_189_11
noncomputable def n_189_9 : e_Y := u_old (o_i2l 10) n_189_10
theorem t_189_9 : e_Sn 189 9 (e_un n_189_9) := u_oldT (s_i2l hq_189 (by decide +kernel) rfl : e_Sn 189 9 (o_i2l 10)) t_189_10 e_congr_i2l
noncomputable def n_189_8 : e_Y := u_ld f_okI f_l2 n_189_9
theorem t_189_8 : e_Sn 189 8 (e_un n_189_8) := u_ldIT f_l2_eq (s_iload (i := .iload_n 2) (len := 1) hq_189 (by decide +kernel) rfl (.inr ⟨2, rfl, rfl, rfl⟩) : e_Sn 189 8 (o_load e_okI 2 9)) t_189_9
noncomputable def n_189_5 : e_Y := u_if y_ne0 (u_old2 (o_ifeq 8 20) 8 n_189_8 n_189_20) n_189_8 n_189_20
theorem t_189_5 : e_Sn 189 5 (e_un n_189_5) := u_ifeqT rfl (s_ifne (off := (15)) hq_189 (by decide +kernel) rfl rfl : e_Sn 189 5 (o_ifeq 8 20)) t_189_8 t_189_20
noncomputable def n_189_2 : e_Y := u_callS 164 1 20 1 n_164_0 n_189_5
theorem t_189_2 : e_Sn 189 2 (e_un n_189_2) := u_callST rfl (s_callS (index := 333) hq_189 ho_189 hy_164 hp_164 hc_164 hi_164 hd_164 (List.mem_of_getElem? (i := 3067) (by decide +kernel)) hs_164 (by decide +kernel) rfl : e_Sn 189 2 (o_callS 164 1 1 5)) t_164_0 t_189_5
noncomputable def n_189_1 : e_Y := u_ld f_okI f_l1 n_189_2
theorem t_189_1 : e_Sn 189 1 (e_un n_189_1) := u_ldIT f_l1_eq (s_iload (i := .iload_n 1) (len := 1) hq_189 (by decide +kernel) rfl (.inr ⟨1, rfl, rfl, rfl⟩) : e_Sn 189 1 (o_load e_okI 1 2)) t_189_2
noncomputable def n_189_0 : e_Y := u_ld f_okA f_l0 n_189_1
theorem t_189_0 : e_Sn 189 0 (e_un n_189_0) := u_ldAT f_l0_eq (s_aload (i := .aload_n 0) (len := 1) hq_189 (by decide +kernel) rfl (.inr ⟨0, rfl, rfl, rfl⟩) : e_Sn 189 0 (o_load e_okR 0 1)) t_189_1
noncomputable def e_tb_189 : e_X := (e_lf 0 (e_un n_189_0))
theorem e_tk_189 : e_Tb 189 e_tb_189 := (e_lfT t_189_0)
theorem hq_214 : (e_ml[214]?).map (·.2.1) = some prog_21_method_2_code := rfl
theorem ho_214 : (e_ml[214]?).map (·.1.cls) = some "PlateroomprinterModel$State" := rfl
theorem hr_214 : (e_ml[214]?).map (·.2.2.2) = some (some (.object "PlateroomprinterModel$State")) := rfl
noncomputable def n_214_89 : e_Y := u_retA
theorem t_214_89 : e_Sn 214 89 (e_un n_214_89) := u_retAT (s_aret (.inl ⟨_, rfl⟩) hq_214 hr_214 (by decide +kernel) : e_Sn 214 89 (o_ret e_okR))
noncomputable def n_214_88 : e_Y := u_ld f_okA f_l1 n_214_89
theorem t_214_88 : e_Sn 214 88 (e_un n_214_88) := u_ldAT f_l1_eq (s_aload (i := .aload_n 1) (len := 1) hq_214 (by decide +kernel) rfl (.inr ⟨1, rfl, rfl, rfl⟩) : e_Sn 214 88 (o_load e_okR 1 89)) t_214_89
noncomputable def n_214_85 : e_Y := u_old (o_putf (e_f1 17 5) e_okR 88) n_214_88
theorem t_214_85 : e_Sn 214 85 (e_un n_214_85) := u_oldT (s_putf (ty0 := ey_17) (ok := e_okR) (C := er_17) (T := et_17) (N := 6) (ref := "PlateroomprinterModel$State") (index := 30) (ci := 17) (k := 5) hq_214 ho_214 ⟨rfl, by decide, ei_17, (List.mem_of_getElem? (i := 1803) (by decide +kernel)), .inl rfl⟩ eo_17 en_17 e_oksA (.inl rfl) (by decide +kernel) rfl : e_Sn 214 85 (o_putf (e_f1 17 5) e_okR 88)) t_214_88 (e_cg_putf (e_f1 17 5) e_okR)
noncomputable def n_214_82 : e_Y := u_callS 138 3 22 1 n_138_0 n_214_85
theorem t_214_82 : e_Sn 214 82 (e_un n_214_82) := u_callST rfl (s_callSN (host := "PlateroomprinterModel") (index := 44) hq_214 ho_214 hy_138 hp_138 hc_138 hi_138 hd_138 (List.mem_of_getElem? (i := 2098) (by decide +kernel)) hs_138 (by decide +kernel) rfl : e_Sn 214 82 (o_callS 138 3 1 85)) t_138_0 t_214_85
noncomputable def n_214_79 : e_Y := u_getf 17 5 (u_old (o_getf (e_f1 17 5) 82) n_214_82) n_214_82
theorem t_214_79 : e_Sn 214 79 (e_un n_214_79) := u_getfT (s_getf (C := er_17) (T := et_17) (N := 6) (ref := "PlateroomprinterModel$State") (index := 30) (ci := 17) (k := 5) hq_214 ho_214 ⟨rfl, by decide, ei_17, (List.mem_of_getElem? (i := 1803) (by decide +kernel)), .inl rfl⟩ (by decide +kernel) rfl : e_Sn 214 79 (o_getf (e_f1 17 5) 82)) t_214_82
noncomputable def n_214_78 : e_Y := u_ld f_okA f_l0 n_214_79
theorem t_214_78 : e_Sn 214 78 (e_un n_214_78) := u_ldAT f_l0_eq (s_aload (i := .aload_n 0) (len := 1) hq_214 (by decide +kernel) rfl (.inr ⟨0, rfl, rfl, rfl⟩) : e_Sn 214 78 (o_load e_okR 0 79)) t_214_79
noncomputable def n_214_77 : e_Y := u_ld f_okA f_l1 n_214_78
theorem t_214_77 : e_Sn 214 77 (e_un n_214_77) := u_ldAT f_l1_eq (s_aload (i := .aload_n 1) (len := 1) hq_214 (by decide +kernel) rfl (.inr ⟨1, rfl, rfl, rfl⟩) : e_Sn 214 77 (o_load e_okR 1 78)) t_214_78
noncomputable def n_214_74 : e_Y := u_old (o_putf (e_f1 17 4) e_okR 77) n_214_77
theorem t_214_74 : e_Sn 214 74 (e_un n_214_74) := u_oldT (s_putf (ty0 := ey_17) (ok := e_okR) (C := er_17) (T := et_17) (N := 6) (ref := "PlateroomprinterModel$State") (index := 26) (ci := 17) (k := 4) hq_214 ho_214 ⟨rfl, by decide, ei_17, (List.mem_of_getElem? (i := 1800) (by decide +kernel)), .inl rfl⟩ eo_17 en_17 e_oksA (.inl rfl) (by decide +kernel) rfl : e_Sn 214 74 (o_putf (e_f1 17 4) e_okR 77)) t_214_77 (e_cg_putf (e_f1 17 4) e_okR)
noncomputable def n_214_71 : e_Y := u_callS 138 3 22 1 n_138_0 n_214_74
theorem t_214_71 : e_Sn 214 71 (e_un n_214_71) := u_callST rfl (s_callSN (host := "PlateroomprinterModel") (index := 44) hq_214 ho_214 hy_138 hp_138 hc_138 hi_138 hd_138 (List.mem_of_getElem? (i := 2098) (by decide +kernel)) hs_138 (by decide +kernel) rfl : e_Sn 214 71 (o_callS 138 3 1 74)) t_138_0 t_214_74
noncomputable def n_214_68 : e_Y := u_getf 17 4 (u_old (o_getf (e_f1 17 4) 71) n_214_71) n_214_71
theorem t_214_68 : e_Sn 214 68 (e_un n_214_68) := u_getfT (s_getf (C := er_17) (T := et_17) (N := 6) (ref := "PlateroomprinterModel$State") (index := 26) (ci := 17) (k := 4) hq_214 ho_214 ⟨rfl, by decide, ei_17, (List.mem_of_getElem? (i := 1800) (by decide +kernel)), .inl rfl⟩ (by decide +kernel) rfl : e_Sn 214 68 (o_getf (e_f1 17 4) 71)) t_214_71
noncomputable def n_214_67 : e_Y := u_ld f_okA f_l0 n_214_68
theorem t_214_67 : e_Sn 214 67 (e_un n_214_67) := u_ldAT f_l0_eq (s_aload (i := .aload_n 0) (len := 1) hq_214 (by decide +kernel) rfl (.inr ⟨0, rfl, rfl, rfl⟩) : e_Sn 214 67 (o_load e_okR 0 68)) t_214_68
noncomputable def n_214_66 : e_Y := u_ld f_okA f_l1 n_214_67
theorem t_214_66 : e_Sn 214 66 (e_un n_214_66) := u_ldAT f_l1_eq (s_aload (i := .aload_n 1) (len := 1) hq_214 (by decide +kernel) rfl (.inr ⟨1, rfl, rfl, rfl⟩) : e_Sn 214 66 (o_load e_okR 1 67)) t_214_67
noncomputable def n_214_63 : e_Y := u_old (o_putf (e_f1 17 3) e_okR 66) n_214_66
theorem t_214_63 : e_Sn 214 63 (e_un n_214_63) := u_oldT (s_putf (ty0 := ey_17) (ok := e_okR) (C := er_17) (T := et_17) (N := 6) (ref := "PlateroomprinterModel$State") (index := 22) (ci := 17) (k := 3) hq_214 ho_214 ⟨rfl, by decide, ei_17, (List.mem_of_getElem? (i := 1797) (by decide +kernel)), .inl rfl⟩ eo_17 en_17 e_oksA (.inl rfl) (by decide +kernel) rfl : e_Sn 214 63 (o_putf (e_f1 17 3) e_okR 66)) t_214_66 (e_cg_putf (e_f1 17 3) e_okR)
noncomputable def n_214_60 : e_Y := u_callS 139 3 22 1 n_139_0 n_214_63
theorem t_214_60 : e_Sn 214 60 (e_un n_214_60) := u_callST rfl (s_callSN (host := "PlateroomprinterModel") (index := 41) hq_214 ho_214 hy_139 hp_139 hc_139 hi_139 hd_139 (List.mem_of_getElem? (i := 2095) (by decide +kernel)) hs_139 (by decide +kernel) rfl : e_Sn 214 60 (o_callS 139 3 1 63)) t_139_0 t_214_63
noncomputable def n_214_57 : e_Y := u_getf 17 3 (u_old (o_getf (e_f1 17 3) 60) n_214_60) n_214_60
theorem t_214_57 : e_Sn 214 57 (e_un n_214_57) := u_getfT (s_getf (C := er_17) (T := et_17) (N := 6) (ref := "PlateroomprinterModel$State") (index := 22) (ci := 17) (k := 3) hq_214 ho_214 ⟨rfl, by decide, ei_17, (List.mem_of_getElem? (i := 1797) (by decide +kernel)), .inl rfl⟩ (by decide +kernel) rfl : e_Sn 214 57 (o_getf (e_f1 17 3) 60)) t_214_60
noncomputable def n_214_56 : e_Y := u_ld f_okA f_l0 n_214_57
theorem t_214_56 : e_Sn 214 56 (e_un n_214_56) := u_ldAT f_l0_eq (s_aload (i := .aload_n 0) (len := 1) hq_214 (by decide +kernel) rfl (.inr ⟨0, rfl, rfl, rfl⟩) : e_Sn 214 56 (o_load e_okR 0 57)) t_214_57
noncomputable def n_214_55 : e_Y := u_ld f_okA f_l1 n_214_56
theorem t_214_55 : e_Sn 214 55 (e_un n_214_55) := u_ldAT f_l1_eq (s_aload (i := .aload_n 1) (len := 1) hq_214 (by decide +kernel) rfl (.inr ⟨1, rfl, rfl, rfl⟩) : e_Sn 214 55 (o_load e_okR 1 56)) t_214_56
noncomputable def n_214_52 : e_Y := u_old (o_putf (e_f1 17 2) e_okR 55) n_214_55
theorem t_214_52 : e_Sn 214 52 (e_un n_214_52) := u_oldT (s_putf (ty0 := ey_17) (ok := e_okR) (C := er_17) (T := et_17) (N := 6) (ref := "PlateroomprinterModel$State") (index := 38) (ci := 17) (k := 2) hq_214 ho_214 ⟨rfl, by decide, ei_17, (List.mem_of_getElem? (i := 1794) (by decide +kernel)), .inl rfl⟩ eo_17 en_17 e_oksA (.inl rfl) (by decide +kernel) rfl : e_Sn 214 52 (o_putf (e_f1 17 2) e_okR 55)) t_214_55 (e_cg_putf (e_f1 17 2) e_okR)
noncomputable def n_214_49 : e_Y := u_getf 17 2 (u_old (o_getf (e_f1 17 2) 52) n_214_52) n_214_52
theorem t_214_49 : e_Sn 214 49 (e_un n_214_49) := u_getfT (s_getf (C := er_17) (T := et_17) (N := 6) (ref := "PlateroomprinterModel$State") (index := 38) (ci := 17) (k := 2) hq_214 ho_214 ⟨rfl, by decide, ei_17, (List.mem_of_getElem? (i := 1794) (by decide +kernel)), .inl rfl⟩ (by decide +kernel) rfl : e_Sn 214 49 (o_getf (e_f1 17 2) 52)) t_214_52
noncomputable def n_214_48 : e_Y := u_ld f_okA f_l0 n_214_49
theorem t_214_48 : e_Sn 214 48 (e_un n_214_48) := u_ldAT f_l0_eq (s_aload (i := .aload_n 0) (len := 1) hq_214 (by decide +kernel) rfl (.inr ⟨0, rfl, rfl, rfl⟩) : e_Sn 214 48 (o_load e_okR 0 49)) t_214_49
noncomputable def n_214_47 : e_Y := u_ld f_okA f_l1 n_214_48
theorem t_214_47 : e_Sn 214 47 (e_un n_214_47) := u_ldAT f_l1_eq (s_aload (i := .aload_n 1) (len := 1) hq_214 (by decide +kernel) rfl (.inr ⟨1, rfl, rfl, rfl⟩) : e_Sn 214 47 (o_load e_okR 1 48)) t_214_48
noncomputable def n_214_44 : e_Y := u_old (o_putf (e_f1 17 1) e_okR 47) n_214_47
theorem t_214_44 : e_Sn 214 44 (e_un n_214_44) := u_oldT (s_putf (ty0 := ey_17) (ok := e_okR) (C := er_17) (T := et_17) (N := 6) (ref := "PlateroomprinterModel$State") (index := 18) (ci := 17) (k := 1) hq_214 ho_214 ⟨rfl, by decide, ei_17, (List.mem_of_getElem? (i := 1791) (by decide +kernel)), .inl rfl⟩ eo_17 en_17 e_oksR (.inl rfl) (by decide +kernel) rfl : e_Sn 214 44 (o_putf (e_f1 17 1) e_okR 47)) t_214_47 (e_cg_putf (e_f1 17 1) e_okR)
noncomputable def n_214_41 : e_Y := u_callS 137 5 24 3 n_137_0 n_214_44
theorem t_214_41 : e_Sn 214 41 (e_un n_214_41) := u_callST rfl (s_callSN (host := "PlateroomprinterModel") (index := 34) hq_214 ho_214 hy_137 hp_137 hc_137 hi_137 hd_137 (List.mem_of_getElem? (i := 2063) (by decide +kernel)) hs_137 (by decide +kernel) rfl : e_Sn 214 41 (o_callS 137 5 3 44)) t_137_0 t_214_44
noncomputable def n_214_40 : e_Y := u_push (.inl 2147483648) n_214_41
theorem t_214_40 : e_Sn 214 40 (e_un n_214_40) := u_pushT (s_iconst (n := (0)) hq_214 (by decide +kernel) rfl ⟨by decide +kernel, by decide +kernel⟩ : e_Sn 214 40 (o_push (.inl 2147483648) 41)) t_214_41
noncomputable def n_214_39 : e_Y := u_push (.inl 2147483648) n_214_40
theorem t_214_39 : e_Sn 214 39 (e_un n_214_39) := u_pushT (s_iconst (n := (0)) hq_214 (by decide +kernel) rfl ⟨by decide +kernel, by decide +kernel⟩ : e_Sn 214 39 (o_push (.inl 2147483648) 40)) t_214_40
noncomputable def n_214_36 : e_Y := u_getf 17 1 (u_old (o_getf (e_f1 17 1) 39) n_214_39) n_214_39
theorem t_214_36 : e_Sn 214 36 (e_un n_214_36) := u_getfT (s_getf (C := er_17) (T := et_17) (N := 6) (ref := "PlateroomprinterModel$State") (index := 18) (ci := 17) (k := 1) hq_214 ho_214 ⟨rfl, by decide, ei_17, (List.mem_of_getElem? (i := 1791) (by decide +kernel)), .inl rfl⟩ (by decide +kernel) rfl : e_Sn 214 36 (o_getf (e_f1 17 1) 39)) t_214_39
noncomputable def n_214_35 : e_Y := u_ld f_okA f_l0 n_214_36
theorem t_214_35 : e_Sn 214 35 (e_un n_214_35) := u_ldAT f_l0_eq (s_aload (i := .aload_n 0) (len := 1) hq_214 (by decide +kernel) rfl (.inr ⟨0, rfl, rfl, rfl⟩) : e_Sn 214 35 (o_load e_okR 0 36)) t_214_36
noncomputable def n_214_34 : e_Y := u_ld f_okA f_l1 n_214_35
theorem t_214_34 : e_Sn 214 34 (e_un n_214_34) := u_ldAT f_l1_eq (s_aload (i := .aload_n 1) (len := 1) hq_214 (by decide +kernel) rfl (.inr ⟨1, rfl, rfl, rfl⟩) : e_Sn 214 34 (o_load e_okR 1 35)) t_214_35
noncomputable def n_214_31 : e_Y := (u_at 10)
theorem t_214_31 : e_Sn 214 31 (e_un n_214_31) := u_gotoT (s_goto (off := (-21)) hq_214 (by decide +kernel) rfl : e_Sn 214 31 (o_goto 10)) u_atT
noncomputable def n_214_28 : e_Y := u_inc f_l2 f_s2 1 n_214_31
theorem t_214_28 : e_Sn 214 28 (e_un n_214_28) := u_incT f_l2_eq (fun _ _ _ => f_s2_eq) (s_iinc (zz := (1)) hq_214 (by decide +kernel) rfl (by decide +kernel) ⟨by decide, by decide⟩ : e_Sn 214 28 (o_iinc 2 1 31)) t_214_31
noncomputable def n_214_27 : e_Y := u_old (o_ast 2 e_okL 28) n_214_28
theorem t_214_27 : e_Sn 214 27 (e_un n_214_27) := u_oldT (s_last hq_214 (by decide +kernel) rfl : e_Sn 214 27 (o_ast 2 e_okL 28)) t_214_28 (e_cg_ast 2 e_okL)
noncomputable def n_214_26 : e_Y := u_ald 2 (u_old (o_aldO 2 27) n_214_27) n_214_27
theorem t_214_26 : e_Sn 214 26 (e_un n_214_26) := u_aldOT (s_lald hq_214 (by decide +kernel) rfl : e_Sn 214 26 (o_aldO 2 27)) t_214_27
noncomputable def n_214_25 : e_Y := u_ld f_okI f_l2 n_214_26
theorem t_214_25 : e_Sn 214 25 (e_un n_214_25) := u_ldIT f_l2_eq (s_iload (i := .iload_n 2) (len := 1) hq_214 (by decide +kernel) rfl (.inr ⟨2, rfl, rfl, rfl⟩) : e_Sn 214 25 (o_load e_okI 2 26)) t_214_26
noncomputable def n_214_22 : e_Y := u_getf 17 0 (u_old (o_getf (e_f1 17 0) 25) n_214_25) n_214_25
theorem t_214_22 : e_Sn 214 22 (e_un n_214_22) := u_getfT (s_getf (C := er_17) (T := et_17) (N := 6) (ref := "PlateroomprinterModel$State") (index := 9) (ci := 17) (k := 0) hq_214 ho_214 ⟨rfl, by decide, ei_17, (List.mem_of_getElem? (i := 1789) (by decide +kernel)), .inl rfl⟩ (by decide +kernel) rfl : e_Sn 214 22 (o_getf (e_f1 17 0) 25)) t_214_25
noncomputable def n_214_21 : e_Y := u_ld f_okA f_l0 n_214_22
theorem t_214_21 : e_Sn 214 21 (e_un n_214_21) := u_ldAT f_l0_eq (s_aload (i := .aload_n 0) (len := 1) hq_214 (by decide +kernel) rfl (.inr ⟨0, rfl, rfl, rfl⟩) : e_Sn 214 21 (o_load e_okR 0 22)) t_214_22
noncomputable def n_214_20 : e_Y := u_ld f_okI f_l2 n_214_21
theorem t_214_20 : e_Sn 214 20 (e_un n_214_20) := u_ldIT f_l2_eq (s_iload (i := .iload_n 2) (len := 1) hq_214 (by decide +kernel) rfl (.inr ⟨2, rfl, rfl, rfl⟩) : e_Sn 214 20 (o_load e_okI 2 21)) t_214_21
noncomputable def n_214_17 : e_Y := u_getf 17 0 (u_old (o_getf (e_f1 17 0) 20) n_214_20) n_214_20
theorem t_214_17 : e_Sn 214 17 (e_un n_214_17) := u_getfT (s_getf (C := er_17) (T := et_17) (N := 6) (ref := "PlateroomprinterModel$State") (index := 9) (ci := 17) (k := 0) hq_214 ho_214 ⟨rfl, by decide, ei_17, (List.mem_of_getElem? (i := 1789) (by decide +kernel)), .inl rfl⟩ (by decide +kernel) rfl : e_Sn 214 17 (o_getf (e_f1 17 0) 20)) t_214_20
noncomputable def n_214_16 : e_Y := u_ld f_okA f_l1 n_214_17
theorem t_214_16 : e_Sn 214 16 (e_un n_214_16) := u_ldAT f_l1_eq (s_aload (i := .aload_n 1) (len := 1) hq_214 (by decide +kernel) rfl (.inr ⟨1, rfl, rfl, rfl⟩) : e_Sn 214 16 (o_load e_okR 1 17)) t_214_17
noncomputable def n_214_13 : e_Y := u_jmp y_ge (u_old2 (o_clt 16 34) 16 n_214_16 n_214_34) n_214_16 n_214_34
theorem t_214_13 : e_Sn 214 13 (e_un n_214_13) := u_cltT rfl (s_cge (off := (21)) hq_214 (by decide +kernel) rfl rfl : e_Sn 214 13 (o_clt 16 34)) t_214_16 t_214_34
noncomputable def n_214_11 : e_Y := u_push (.inl 2147483660) n_214_13
theorem t_214_11 : e_Sn 214 11 (e_un n_214_11) := u_pushT (s_bipush (n := (12)) hq_214 (by decide +kernel) rfl ⟨by decide +kernel, by decide +kernel⟩ : e_Sn 214 11 (o_push (.inl 2147483660) 13)) t_214_13
noncomputable def n_214_10 : e_Y := u_ld f_okI f_l2 n_214_11
theorem t_214_10 : e_Sn 214 10 (e_un n_214_10) := u_ldIT f_l2_eq (s_iload (i := .iload_n 2) (len := 1) hq_214 (by decide +kernel) rfl (.inr ⟨2, rfl, rfl, rfl⟩) : e_Sn 214 10 (o_load e_okI 2 11)) t_214_11
noncomputable def n_214_9 : e_Y := u_st f_okI f_s2 n_214_10
theorem t_214_9 : e_Sn 214 9 (e_un n_214_9) := u_stIT (fun _ _ _ => f_s2_eq) (s_istore (i := .istore_n 2) (len := 1) hq_214 (by decide +kernel) rfl (.inr ⟨2, rfl, rfl, rfl⟩) : e_Sn 214 9 (o_store e_okI 2 10)) t_214_10
noncomputable def n_214_8 : e_Y := u_push (.inl 2147483648) n_214_9
theorem t_214_8 : e_Sn 214 8 (e_un n_214_8) := u_pushT (s_iconst (n := (0)) hq_214 (by decide +kernel) rfl ⟨by decide +kernel, by decide +kernel⟩ : e_Sn 214 8 (o_push (.inl 2147483648) 9)) t_214_9
noncomputable def n_214_7 : e_Y := u_st f_okA f_s1 n_214_8
theorem t_214_7 : e_Sn 214 7 (e_un n_214_7) := u_stAT (fun _ _ _ => f_s1_eq) (s_astore (i := .astore_n 1) (len := 1) hq_214 (by decide +kernel) rfl (.inr ⟨1, rfl, rfl, rfl⟩) : e_Sn 214 7 (o_store e_okR 1 8)) t_214_8
noncomputable def n_214_4 : e_Y := u_tab (o_callI 213 2 1 7)
theorem t_214_4 : e_Sn 214 4 (e_un n_214_4) := u_tabT (s_callI (index := 33) hq_214 ho_214 hy_213 hp_213 hc_213 hi_213 hd_213 (List.mem_of_getElem? (i := 2062) (by decide +kernel)) rfl rfl hs_213 (by decide +kernel) rfl : e_Sn 214 4 (o_callI 213 2 1 7))
noncomputable def n_214_3 : e_Y := u_old (o_dup 4) n_214_4
theorem t_214_3 : e_Sn 214 3 (e_un n_214_3) := u_oldT (s_dup hq_214 (by decide +kernel) rfl : e_Sn 214 3 (o_dup 4)) t_214_4 e_cg_dup
noncomputable def n_214_0 : e_Y := u_tab (o_new 17 6 ef_17 3)
theorem t_214_0 : e_Sn 214 0 (e_un n_214_0) := u_tabT (s_new (index := 10) (ci := 17) (N := 6) (C := er_17) (T := et_17) (ty0 := ey_17) (fv := eg_17) hq_214 ho_214 rfl ei_17 eo_17 (List.mem_of_getElem? (i := 2061) (by decide +kernel)) (List.mem_of_getElem? (i := 1782) (by decide +kernel)) (List.mem_of_getElem? (i := 156) (by decide +kernel)) eh_17 rfl (e_newrel ek_17) (by decide +kernel) rfl : e_Sn 214 0 (o_new 17 6 ef_17 3))
noncomputable def e_tb_214 : e_X := (e_br 7 (e_br 3 (e_lf 0 (e_un n_214_0)) (e_lf 3 (e_un n_214_3))) (e_br 10 (e_lf 7 (e_un n_214_7)) (e_lf 10 (e_un n_214_10))))
theorem e_tk_214 : e_Tb 214 e_tb_214 := (e_brT (e_brT (e_lfT t_214_0) (e_lfT t_214_3)) (e_brT (e_lfT t_214_7) (e_lfT t_214_10)))
theorem hq_233 : (e_ml[233]?).map (·.2.1) = some prog_50_method_23_code := rfl
theorem ho_233 : (e_ml[233]?).map (·.1.cls) = some "java/util/ArrayList" := rfl
theorem hr_233 : (e_ml[233]?).map (·.2.2.2) = some (some (.object "java/lang/Object")) := rfl
noncomputable def n_233_23 : e_Y := u_retA
theorem t_233_23 : e_Sn 233 23 (e_un n_233_23) := u_retAT (s_aret (.inl ⟨_, rfl⟩) hq_233 hr_233 (by decide +kernel) : e_Sn 233 23 (o_ret e_okR))
noncomputable def n_233_22 : e_Y := u_ld f_okA f_l3 n_233_23
theorem t_233_22 : e_Sn 233 22 (e_un n_233_22) := u_ldAT f_l3_eq (s_aload (i := .aload_n 3) (len := 1) hq_233 (by decide +kernel) rfl (.inr ⟨3, rfl, rfl, rfl⟩) : e_Sn 233 22 (o_load e_okR 3 23)) t_233_23
noncomputable def n_233_21 : e_Y := u_old (o_astR 3 (fun _ => false) 22) n_233_22
theorem t_233_21 : e_Sn 233 21 (e_un n_233_21) := u_oldT (s_aast (tc := 0) (E := "java/lang/Object") hq_233 rfl (by decide) (fun k hk => by cases hk) (by decide +kernel) rfl : e_Sn 233 21 (o_astR 3 (fun _ => false) 22)) t_233_22 (e_cg_astR 3 (fun _ => false))
noncomputable def n_233_20 : e_Y := u_ld f_okA f_l2 n_233_21
theorem t_233_20 : e_Sn 233 20 (e_un n_233_20) := u_ldAT f_l2_eq (s_aload (i := .aload_n 2) (len := 1) hq_233 (by decide +kernel) rfl (.inr ⟨2, rfl, rfl, rfl⟩) : e_Sn 233 20 (o_load e_okR 2 21)) t_233_21
noncomputable def n_233_19 : e_Y := u_ld f_okI f_l1 n_233_20
theorem t_233_19 : e_Sn 233 19 (e_un n_233_19) := u_ldIT f_l1_eq (s_iload (i := .iload_n 1) (len := 1) hq_233 (by decide +kernel) rfl (.inr ⟨1, rfl, rfl, rfl⟩) : e_Sn 233 19 (o_load e_okI 1 20)) t_233_20
noncomputable def n_233_16 : e_Y := u_getf 18 0 (u_old (o_getf (e_f1 18 0) 19) n_233_19) n_233_19
theorem t_233_16 : e_Sn 233 16 (e_un n_233_16) := u_getfT (s_getf (C := er_18) (T := et_18) (N := 3) (ref := "java/util/ArrayList") (index := 9) (ci := 18) (k := 0) hq_233 ho_233 ⟨rfl, by decide, ei_18, (List.mem_of_getElem? (i := 1764) (by decide +kernel)), .inl rfl⟩ (by decide +kernel) rfl : e_Sn 233 16 (o_getf (e_f1 18 0) 19)) t_233_19
noncomputable def n_233_15 : e_Y := u_ld f_okA f_l0 n_233_16
theorem t_233_15 : e_Sn 233 15 (e_un n_233_15) := u_ldAT f_l0_eq (s_aload (i := .aload_n 0) (len := 1) hq_233 (by decide +kernel) rfl (.inr ⟨0, rfl, rfl, rfl⟩) : e_Sn 233 15 (o_load e_okR 0 16)) t_233_16
noncomputable def n_233_14 : e_Y := u_st f_okA f_s3 n_233_15
theorem t_233_14 : e_Sn 233 14 (e_un n_233_14) := u_stAT (fun _ _ _ => f_s3_eq) (s_astore (i := .astore_n 3) (len := 1) hq_233 (by decide +kernel) rfl (.inr ⟨3, rfl, rfl, rfl⟩) : e_Sn 233 14 (o_store e_okR 3 15)) t_233_15
noncomputable def n_233_11 : e_Y := u_callV 18 225 2 21 2 n_225_0 n_233_14
theorem t_233_11 : e_Sn 233 11 (e_un n_233_11) := u_callVT rfl (s_callV (ci := 18) (C := er_18) (T := et_18) (N := 3) (index := 123) hq_233 ho_233 hy_225 hp_225 hc_225 hi_225 hd_225 (List.mem_of_getElem? (i := 2053) (by decide +kernel)) hs_225 (List.mem_of_getElem? (i := 2055) (by decide +kernel)) rfl (by decide +kernel) rfl : e_Sn 233 11 (o_callV (e_s1 18 225 2) 2 14)) t_225_0 t_233_14
noncomputable def n_233_10 : e_Y := u_ld f_okI f_l1 n_233_11
theorem t_233_10 : e_Sn 233 10 (e_un n_233_10) := u_ldIT f_l1_eq (s_iload (i := .iload_n 1) (len := 1) hq_233 (by decide +kernel) rfl (.inr ⟨1, rfl, rfl, rfl⟩) : e_Sn 233 10 (o_load e_okI 1 11)) t_233_11
noncomputable def n_233_9 : e_Y := u_ld f_okA f_l0 n_233_10
theorem t_233_9 : e_Sn 233 9 (e_un n_233_9) := u_ldAT f_l0_eq (s_aload (i := .aload_n 0) (len := 1) hq_233 (by decide +kernel) rfl (.inr ⟨0, rfl, rfl, rfl⟩) : e_Sn 233 9 (o_load e_okR 0 10)) t_233_10
noncomputable def n_233_8 : e_Y := u_pop n_233_9
theorem t_233_8 : e_Sn 233 8 (e_un n_233_8) := u_popT (s_pop hq_233 (by decide +kernel) rfl : e_Sn 233 8 (o_pop 9)) t_233_9
noncomputable def n_233_5 : e_Y := u_callS 237 2 21 2 n_237_0 n_233_8
theorem t_233_5 : e_Sn 233 5 (e_un n_233_5) := u_callST rfl (s_callS (index := 118) hq_233 ho_233 hy_237 hp_237 hc_237 hi_237 hd_237 (List.mem_of_getElem? (i := 2021) (by decide +kernel)) hs_237 (by decide +kernel) rfl : e_Sn 233 5 (o_callS 237 2 2 8)) t_237_0 t_233_8
noncomputable def n_233_2 : e_Y := u_getf 18 1 (u_old (o_getf (e_f1 18 1) 5) n_233_5) n_233_5
theorem t_233_2 : e_Sn 233 2 (e_un n_233_2) := u_getfT (s_getf (C := er_18) (T := et_18) (N := 3) (ref := "java/util/ArrayList") (index := 48) (ci := 18) (k := 1) hq_233 ho_233 ⟨rfl, by decide, ei_18, (List.mem_of_getElem? (i := 1767) (by decide +kernel)), .inl rfl⟩ (by decide +kernel) rfl : e_Sn 233 2 (o_getf (e_f1 18 1) 5)) t_233_5
noncomputable def n_233_1 : e_Y := u_ld f_okA f_l0 n_233_2
theorem t_233_1 : e_Sn 233 1 (e_un n_233_1) := u_ldAT f_l0_eq (s_aload (i := .aload_n 0) (len := 1) hq_233 (by decide +kernel) rfl (.inr ⟨0, rfl, rfl, rfl⟩) : e_Sn 233 1 (o_load e_okR 0 2)) t_233_2
noncomputable def n_233_0 : e_Y := u_ld f_okI f_l1 n_233_1
theorem t_233_0 : e_Sn 233 0 (e_un n_233_0) := u_ldIT f_l1_eq (s_iload (i := .iload_n 1) (len := 1) hq_233 (by decide +kernel) rfl (.inr ⟨1, rfl, rfl, rfl⟩) : e_Sn 233 0 (o_load e_okI 1 1)) t_233_1
noncomputable def e_tb_233 : e_X := (e_lf 0 (e_un n_233_0))
theorem e_tk_233 : e_Tb 233 e_tb_233 := (e_lfT t_233_0)
theorem hq_205 : (e_ml[205]?).map (·.2.1) = some prog_17_method_2_code := rfl
theorem ho_205 : (e_ml[205]?).map (·.1.cls) = some "PlateroomprinterModel$Machine" := rfl
theorem hr_205 : (e_ml[205]?).map (·.2.2.2) = some (some (.object "PlateroomprinterModel$Machine")) := rfl
noncomputable def n_205_258 : e_Y := u_retA
theorem t_205_258 : e_Sn 205 258 (e_un n_205_258) := u_retAT (s_aret (.inl ⟨_, rfl⟩) hq_205 hr_205 (by decide +kernel) : e_Sn 205 258 (o_ret e_okR))
noncomputable def n_205_257 : e_Y := u_ld f_okA f_l1 n_205_258
theorem t_205_257 : e_Sn 205 257 (e_un n_205_257) := u_ldAT f_l1_eq (s_aload (i := .aload_n 1) (len := 1) hq_205 (by decide +kernel) rfl (.inr ⟨1, rfl, rfl, rfl⟩) : e_Sn 205 257 (o_load e_okR 1 258)) t_205_258
noncomputable def n_205_254 : e_Y := u_old (o_putf (e_f1 13 12) e_okR 257) n_205_257
theorem t_205_254 : e_Sn 205 254 (e_un n_205_254) := u_oldT (s_putf (ty0 := ey_13) (ok := e_okR) (C := er_13) (T := et_13) (N := 13) (ref := "PlateroomprinterModel$Machine") (index := 44) (ci := 13) (k := 12) hq_205 ho_205 ⟨rfl, by decide, ei_13, (List.mem_of_getElem? (i := 1926) (by decide +kernel)), .inl rfl⟩ eo_13 en_13 e_oksA (.inl rfl) (by decide +kernel) rfl : e_Sn 205 254 (o_putf (e_f1 13 12) e_okR 257)) t_205_257 (e_cg_putf (e_f1 13 12) e_okR)
noncomputable def n_205_251 : e_Y := u_callS 138 3 22 1 n_138_0 n_205_254
theorem t_205_251 : e_Sn 205 251 (e_un n_205_251) := u_callST rfl (s_callSN (host := "PlateroomprinterModel") (index := 91) hq_205 ho_205 hy_138 hp_138 hc_138 hi_138 hd_138 (List.mem_of_getElem? (i := 2107) (by decide +kernel)) hs_138 (by decide +kernel) rfl : e_Sn 205 251 (o_callS 138 3 1 254)) t_138_0 t_205_254
noncomputable def n_205_248 : e_Y := u_getf 13 12 (u_old (o_getf (e_f1 13 12) 251) n_205_251) n_205_251
theorem t_205_248 : e_Sn 205 248 (e_un n_205_248) := u_getfT (s_getf (C := er_13) (T := et_13) (N := 13) (ref := "PlateroomprinterModel$Machine") (index := 44) (ci := 13) (k := 12) hq_205 ho_205 ⟨rfl, by decide, ei_13, (List.mem_of_getElem? (i := 1926) (by decide +kernel)), .inl rfl⟩ (by decide +kernel) rfl : e_Sn 205 248 (o_getf (e_f1 13 12) 251)) t_205_251
noncomputable def n_205_247 : e_Y := u_ld f_okA f_l0 n_205_248
theorem t_205_247 : e_Sn 205 247 (e_un n_205_247) := u_ldAT f_l0_eq (s_aload (i := .aload_n 0) (len := 1) hq_205 (by decide +kernel) rfl (.inr ⟨0, rfl, rfl, rfl⟩) : e_Sn 205 247 (o_load e_okR 0 248)) t_205_248
noncomputable def n_205_246 : e_Y := u_ld f_okA f_l1 n_205_247
theorem t_205_246 : e_Sn 205 246 (e_un n_205_246) := u_ldAT f_l1_eq (s_aload (i := .aload_n 1) (len := 1) hq_205 (by decide +kernel) rfl (.inr ⟨1, rfl, rfl, rfl⟩) : e_Sn 205 246 (o_load e_okR 1 247)) t_205_247
noncomputable def n_205_243 : e_Y := u_old (o_putf (e_f1 13 11) e_okI 246) n_205_246
theorem t_205_243 : e_Sn 205 243 (e_un n_205_243) := u_oldT (s_putf (ty0 := ey_13) (ok := e_okI) (C := er_13) (T := et_13) (N := 13) (ref := "PlateroomprinterModel$Machine") (index := 88) (ci := 13) (k := 11) hq_205 ho_205 ⟨rfl, by decide, ei_13, (List.mem_of_getElem? (i := 1923) (by decide +kernel)), .inl rfl⟩ eo_13 en_13 e_oksI (.inl rfl) (by decide +kernel) rfl : e_Sn 205 243 (o_putf (e_f1 13 11) e_okI 246)) t_205_246 (e_cg_putf (e_f1 13 11) e_okI)
noncomputable def n_205_240 : e_Y := u_getf 13 11 (u_old (o_getf (e_f1 13 11) 243) n_205_243) n_205_243
theorem t_205_240 : e_Sn 205 240 (e_un n_205_240) := u_getfT (s_getf (C := er_13) (T := et_13) (N := 13) (ref := "PlateroomprinterModel$Machine") (index := 88) (ci := 13) (k := 11) hq_205 ho_205 ⟨rfl, by decide, ei_13, (List.mem_of_getElem? (i := 1923) (by decide +kernel)), .inl rfl⟩ (by decide +kernel) rfl : e_Sn 205 240 (o_getf (e_f1 13 11) 243)) t_205_243
noncomputable def n_205_239 : e_Y := u_ld f_okA f_l0 n_205_240
theorem t_205_239 : e_Sn 205 239 (e_un n_205_239) := u_ldAT f_l0_eq (s_aload (i := .aload_n 0) (len := 1) hq_205 (by decide +kernel) rfl (.inr ⟨0, rfl, rfl, rfl⟩) : e_Sn 205 239 (o_load e_okR 0 240)) t_205_240
noncomputable def n_205_238 : e_Y := u_ld f_okA f_l1 n_205_239
theorem t_205_238 : e_Sn 205 238 (e_un n_205_238) := u_ldAT f_l1_eq (s_aload (i := .aload_n 1) (len := 1) hq_205 (by decide +kernel) rfl (.inr ⟨1, rfl, rfl, rfl⟩) : e_Sn 205 238 (o_load e_okR 1 239)) t_205_239
noncomputable def n_205_235 : e_Y := u_old (o_putf (e_f1 13 10) e_okI 238) n_205_238
theorem t_205_235 : e_Sn 205 235 (e_un n_205_235) := u_oldT (s_putf (ty0 := ey_13) (ok := e_okI) (C := er_13) (T := et_13) (N := 13) (ref := "PlateroomprinterModel$Machine") (index := 85) (ci := 13) (k := 10) hq_205 ho_205 ⟨rfl, by decide, ei_13, (List.mem_of_getElem? (i := 1920) (by decide +kernel)), .inl rfl⟩ eo_13 en_13 e_oksI (.inl rfl) (by decide +kernel) rfl : e_Sn 205 235 (o_putf (e_f1 13 10) e_okI 238)) t_205_238 (e_cg_putf (e_f1 13 10) e_okI)
noncomputable def n_205_232 : e_Y := u_getf 13 10 (u_old (o_getf (e_f1 13 10) 235) n_205_235) n_205_235
theorem t_205_232 : e_Sn 205 232 (e_un n_205_232) := u_getfT (s_getf (C := er_13) (T := et_13) (N := 13) (ref := "PlateroomprinterModel$Machine") (index := 85) (ci := 13) (k := 10) hq_205 ho_205 ⟨rfl, by decide, ei_13, (List.mem_of_getElem? (i := 1920) (by decide +kernel)), .inl rfl⟩ (by decide +kernel) rfl : e_Sn 205 232 (o_getf (e_f1 13 10) 235)) t_205_235
noncomputable def n_205_231 : e_Y := u_ld f_okA f_l0 n_205_232
theorem t_205_231 : e_Sn 205 231 (e_un n_205_231) := u_ldAT f_l0_eq (s_aload (i := .aload_n 0) (len := 1) hq_205 (by decide +kernel) rfl (.inr ⟨0, rfl, rfl, rfl⟩) : e_Sn 205 231 (o_load e_okR 0 232)) t_205_232
noncomputable def n_205_230 : e_Y := u_ld f_okA f_l1 n_205_231
theorem t_205_230 : e_Sn 205 230 (e_un n_205_230) := u_ldAT f_l1_eq (s_aload (i := .aload_n 1) (len := 1) hq_205 (by decide +kernel) rfl (.inr ⟨1, rfl, rfl, rfl⟩) : e_Sn 205 230 (o_load e_okR 1 231)) t_205_231
noncomputable def n_205_227 : e_Y := u_old (o_putf (e_f1 13 9) e_okI 230) n_205_230
theorem t_205_227 : e_Sn 205 227 (e_un n_205_227) := u_oldT (s_putf (ty0 := ey_13) (ok := e_okI) (C := er_13) (T := et_13) (N := 13) (ref := "PlateroomprinterModel$Machine") (index := 82) (ci := 13) (k := 9) hq_205 ho_205 ⟨rfl, by decide, ei_13, (List.mem_of_getElem? (i := 1917) (by decide +kernel)), .inl rfl⟩ eo_13 en_13 e_oksI (.inl rfl) (by decide +kernel) rfl : e_Sn 205 227 (o_putf (e_f1 13 9) e_okI 230)) t_205_230 (e_cg_putf (e_f1 13 9) e_okI)
noncomputable def n_205_224 : e_Y := u_getf 13 9 (u_old (o_getf (e_f1 13 9) 227) n_205_227) n_205_227
theorem t_205_224 : e_Sn 205 224 (e_un n_205_224) := u_getfT (s_getf (C := er_13) (T := et_13) (N := 13) (ref := "PlateroomprinterModel$Machine") (index := 82) (ci := 13) (k := 9) hq_205 ho_205 ⟨rfl, by decide, ei_13, (List.mem_of_getElem? (i := 1917) (by decide +kernel)), .inl rfl⟩ (by decide +kernel) rfl : e_Sn 205 224 (o_getf (e_f1 13 9) 227)) t_205_227
noncomputable def n_205_223 : e_Y := u_ld f_okA f_l0 n_205_224
theorem t_205_223 : e_Sn 205 223 (e_un n_205_223) := u_ldAT f_l0_eq (s_aload (i := .aload_n 0) (len := 1) hq_205 (by decide +kernel) rfl (.inr ⟨0, rfl, rfl, rfl⟩) : e_Sn 205 223 (o_load e_okR 0 224)) t_205_224
noncomputable def n_205_222 : e_Y := u_ld f_okA f_l1 n_205_223
theorem t_205_222 : e_Sn 205 222 (e_un n_205_222) := u_ldAT f_l1_eq (s_aload (i := .aload_n 1) (len := 1) hq_205 (by decide +kernel) rfl (.inr ⟨1, rfl, rfl, rfl⟩) : e_Sn 205 222 (o_load e_okR 1 223)) t_205_223
noncomputable def n_205_219 : e_Y := u_old (o_putf (e_f1 13 8) e_okI 222) n_205_222
theorem t_205_219 : e_Sn 205 219 (e_un n_205_219) := u_oldT (s_putf (ty0 := ey_13) (ok := e_okI) (C := er_13) (T := et_13) (N := 13) (ref := "PlateroomprinterModel$Machine") (index := 78) (ci := 13) (k := 8) hq_205 ho_205 ⟨rfl, by decide, ei_13, (List.mem_of_getElem? (i := 1914) (by decide +kernel)), .inl rfl⟩ eo_13 en_13 e_oksI (.inl rfl) (by decide +kernel) rfl : e_Sn 205 219 (o_putf (e_f1 13 8) e_okI 222)) t_205_222 (e_cg_putf (e_f1 13 8) e_okI)
noncomputable def n_205_216 : e_Y := u_getf 13 8 (u_old (o_getf (e_f1 13 8) 219) n_205_219) n_205_219
theorem t_205_216 : e_Sn 205 216 (e_un n_205_216) := u_getfT (s_getf (C := er_13) (T := et_13) (N := 13) (ref := "PlateroomprinterModel$Machine") (index := 78) (ci := 13) (k := 8) hq_205 ho_205 ⟨rfl, by decide, ei_13, (List.mem_of_getElem? (i := 1914) (by decide +kernel)), .inl rfl⟩ (by decide +kernel) rfl : e_Sn 205 216 (o_getf (e_f1 13 8) 219)) t_205_219
noncomputable def n_205_215 : e_Y := u_ld f_okA f_l0 n_205_216
theorem t_205_215 : e_Sn 205 215 (e_un n_205_215) := u_ldAT f_l0_eq (s_aload (i := .aload_n 0) (len := 1) hq_205 (by decide +kernel) rfl (.inr ⟨0, rfl, rfl, rfl⟩) : e_Sn 205 215 (o_load e_okR 0 216)) t_205_216
noncomputable def n_205_214 : e_Y := u_ld f_okA f_l1 n_205_215
theorem t_205_214 : e_Sn 205 214 (e_un n_205_214) := u_ldAT f_l1_eq (s_aload (i := .aload_n 1) (len := 1) hq_205 (by decide +kernel) rfl (.inr ⟨1, rfl, rfl, rfl⟩) : e_Sn 205 214 (o_load e_okR 1 215)) t_205_215
noncomputable def n_205_211 : e_Y := u_old (o_putf (e_f1 13 7) e_okR 214) n_205_214
theorem t_205_211 : e_Sn 205 211 (e_un n_205_211) := u_oldT (s_putf (ty0 := ey_13) (ok := e_okR) (C := er_13) (T := et_13) (N := 13) (ref := "PlateroomprinterModel$Machine") (index := 75) (ci := 13) (k := 7) hq_205 ho_205 ⟨rfl, by decide, ei_13, (List.mem_of_getElem? (i := 1911) (by decide +kernel)), .inl rfl⟩ eo_13 en_13 e_oksA (.inl rfl) (by decide +kernel) rfl : e_Sn 205 211 (o_putf (e_f1 13 7) e_okR 214)) t_205_214 (e_cg_putf (e_f1 13 7) e_okR)
noncomputable def n_205_208 : e_Y := u_getf 13 7 (u_old (o_getf (e_f1 13 7) 211) n_205_211) n_205_211
theorem t_205_208 : e_Sn 205 208 (e_un n_205_208) := u_getfT (s_getf (C := er_13) (T := et_13) (N := 13) (ref := "PlateroomprinterModel$Machine") (index := 75) (ci := 13) (k := 7) hq_205 ho_205 ⟨rfl, by decide, ei_13, (List.mem_of_getElem? (i := 1911) (by decide +kernel)), .inl rfl⟩ (by decide +kernel) rfl : e_Sn 205 208 (o_getf (e_f1 13 7) 211)) t_205_211
noncomputable def n_205_207 : e_Y := u_ld f_okA f_l0 n_205_208
theorem t_205_207 : e_Sn 205 207 (e_un n_205_207) := u_ldAT f_l0_eq (s_aload (i := .aload_n 0) (len := 1) hq_205 (by decide +kernel) rfl (.inr ⟨0, rfl, rfl, rfl⟩) : e_Sn 205 207 (o_load e_okR 0 208)) t_205_208
noncomputable def n_205_206 : e_Y := u_ld f_okA f_l1 n_205_207
theorem t_205_206 : e_Sn 205 206 (e_un n_205_206) := u_ldAT f_l1_eq (s_aload (i := .aload_n 1) (len := 1) hq_205 (by decide +kernel) rfl (.inr ⟨1, rfl, rfl, rfl⟩) : e_Sn 205 206 (o_load e_okR 1 207)) t_205_207
noncomputable def n_205_203 : e_Y := u_old (o_putf (e_f1 13 6) e_okR 206) n_205_206
theorem t_205_203 : e_Sn 205 203 (e_un n_205_203) := u_oldT (s_putf (ty0 := ey_13) (ok := e_okR) (C := er_13) (T := et_13) (N := 13) (ref := "PlateroomprinterModel$Machine") (index := 40) (ci := 13) (k := 6) hq_205 ho_205 ⟨rfl, by decide, ei_13, (List.mem_of_getElem? (i := 1908) (by decide +kernel)), .inl rfl⟩ eo_13 en_13 e_oksA (.inl rfl) (by decide +kernel) rfl : e_Sn 205 203 (o_putf (e_f1 13 6) e_okR 206)) t_205_206 (e_cg_putf (e_f1 13 6) e_okR)
noncomputable def n_205_200 : e_Y := u_callS 139 3 22 1 n_139_0 n_205_203
theorem t_205_200 : e_Sn 205 200 (e_un n_205_200) := u_callST rfl (s_callSN (host := "PlateroomprinterModel") (index := 71) hq_205 ho_205 hy_139 hp_139 hc_139 hi_139 hd_139 (List.mem_of_getElem? (i := 2106) (by decide +kernel)) hs_139 (by decide +kernel) rfl : e_Sn 205 200 (o_callS 139 3 1 203)) t_139_0 t_205_203
noncomputable def n_205_197 : e_Y := u_getf 13 6 (u_old (o_getf (e_f1 13 6) 200) n_205_200) n_205_200
theorem t_205_197 : e_Sn 205 197 (e_un n_205_197) := u_getfT (s_getf (C := er_13) (T := et_13) (N := 13) (ref := "PlateroomprinterModel$Machine") (index := 40) (ci := 13) (k := 6) hq_205 ho_205 ⟨rfl, by decide, ei_13, (List.mem_of_getElem? (i := 1908) (by decide +kernel)), .inl rfl⟩ (by decide +kernel) rfl : e_Sn 205 197 (o_getf (e_f1 13 6) 200)) t_205_200
noncomputable def n_205_196 : e_Y := u_ld f_okA f_l0 n_205_197
theorem t_205_196 : e_Sn 205 196 (e_un n_205_196) := u_ldAT f_l0_eq (s_aload (i := .aload_n 0) (len := 1) hq_205 (by decide +kernel) rfl (.inr ⟨0, rfl, rfl, rfl⟩) : e_Sn 205 196 (o_load e_okR 0 197)) t_205_197
noncomputable def n_205_195 : e_Y := u_ld f_okA f_l1 n_205_196
theorem t_205_195 : e_Sn 205 195 (e_un n_205_195) := u_ldAT f_l1_eq (s_aload (i := .aload_n 1) (len := 1) hq_205 (by decide +kernel) rfl (.inr ⟨1, rfl, rfl, rfl⟩) : e_Sn 205 195 (o_load e_okR 1 196)) t_205_196
noncomputable def n_205_167 : e_Y := u_jmp y_ge (u_old2 (o_clt 170 195) 170 (u_at 170) n_205_195) (u_at 170) n_205_195
theorem t_205_167 : e_Sn 205 167 (e_un n_205_167) := u_cltT rfl (s_cge (off := (28)) hq_205 (by decide +kernel) rfl rfl : e_Sn 205 167 (o_clt 170 195)) u_atT t_205_195
noncomputable def n_205_164 : e_Y := u_callV 18 234 1 20 1 n_234_0 n_205_167
theorem t_205_164 : e_Sn 205 164 (e_un n_205_164) := u_callVT rfl (s_callV (ci := 18) (C := er_18) (T := et_18) (N := 3) (index := 53) hq_205 ho_205 hy_234 hp_234 hc_234 hi_234 hd_234 (List.mem_of_getElem? (i := 2048) (by decide +kernel)) hs_234 (List.mem_of_getElem? (i := 2002) (by decide +kernel)) rfl (by decide +kernel) rfl : e_Sn 205 164 (o_callV (e_s1 18 234 1) 1 167)) t_234_0 t_205_167
noncomputable def n_205_161 : e_Y := u_getf 13 5 (u_old (o_getf (e_f1 13 5) 164) n_205_164) n_205_164
theorem t_205_161 : e_Sn 205 161 (e_un n_205_161) := u_getfT (s_getf (C := er_13) (T := et_13) (N := 13) (ref := "PlateroomprinterModel$Machine") (index := 37) (ci := 13) (k := 5) hq_205 ho_205 ⟨rfl, by decide, ei_13, (List.mem_of_getElem? (i := 1905) (by decide +kernel)), .inl rfl⟩ (by decide +kernel) rfl : e_Sn 205 161 (o_getf (e_f1 13 5) 164)) t_205_164
noncomputable def n_205_160 : e_Y := u_ld f_okA f_l0 n_205_161
theorem t_205_160 : e_Sn 205 160 (e_un n_205_160) := u_ldAT f_l0_eq (s_aload (i := .aload_n 0) (len := 1) hq_205 (by decide +kernel) rfl (.inr ⟨0, rfl, rfl, rfl⟩) : e_Sn 205 160 (o_load e_okR 0 161)) t_205_161
noncomputable def n_205_159 : e_Y := u_ld f_okI f_l2 n_205_160
theorem t_205_159 : e_Sn 205 159 (e_un n_205_159) := u_ldIT f_l2_eq (s_iload (i := .iload_n 2) (len := 1) hq_205 (by decide +kernel) rfl (.inr ⟨2, rfl, rfl, rfl⟩) : e_Sn 205 159 (o_load e_okI 2 160)) t_205_160
noncomputable def n_205_158 : e_Y := u_st f_okI f_s2 n_205_159
theorem t_205_158 : e_Sn 205 158 (e_un n_205_158) := u_stIT (fun _ _ _ => f_s2_eq) (s_istore (i := .istore_n 2) (len := 1) hq_205 (by decide +kernel) rfl (.inr ⟨2, rfl, rfl, rfl⟩) : e_Sn 205 158 (o_store e_okI 2 159)) t_205_159
noncomputable def n_205_157 : e_Y := u_push (.inl 2147483648) n_205_158
theorem t_205_157 : e_Sn 205 157 (e_un n_205_157) := u_pushT (s_iconst (n := (0)) hq_205 (by decide +kernel) rfl ⟨by decide +kernel, by decide +kernel⟩ : e_Sn 205 157 (o_push (.inl 2147483648) 158)) t_205_158
noncomputable def n_205_154 : e_Y := (u_at 126)
theorem t_205_154 : e_Sn 205 154 (e_un n_205_154) := u_gotoT (s_goto (off := (-28)) hq_205 (by decide +kernel) rfl : e_Sn 205 154 (o_goto 126)) u_atT
noncomputable def n_205_151 : e_Y := u_inc f_l2 f_s2 1 n_205_154
theorem t_205_151 : e_Sn 205 151 (e_un n_205_151) := u_incT f_l2_eq (fun _ _ _ => f_s2_eq) (s_iinc (zz := (1)) hq_205 (by decide +kernel) rfl (by decide +kernel) ⟨by decide, by decide⟩ : e_Sn 205 151 (o_iinc 2 1 154)) t_205_154
noncomputable def n_205_150 : e_Y := u_pop n_205_151
theorem t_205_150 : e_Sn 205 150 (e_un n_205_150) := u_popT (s_pop hq_205 (by decide +kernel) rfl : e_Sn 205 150 (o_pop 151)) t_205_151
noncomputable def n_205_147 : e_Y := u_callV 18 233 4 23 3 n_233_0 n_205_150
theorem t_205_147 : e_Sn 205 147 (e_un n_205_147) := u_callVT rfl (s_callV (ci := 18) (C := er_18) (T := et_18) (N := 3) (index := 65) hq_205 ho_205 hy_233 hp_233 hc_233 hi_233 hd_233 (List.mem_of_getElem? (i := 2101) (by decide +kernel)) hs_233 (List.mem_of_getElem? (i := 2103) (by decide +kernel)) rfl (by decide +kernel) rfl : e_Sn 205 147 (o_callV (e_s1 18 233 4) 3 150)) t_233_0 t_205_150
noncomputable def n_205_144 : e_Y := u_old (o_cast 18 147) n_205_147
theorem t_205_144 : e_Sn 205 144 (e_un n_205_144) := u_oldT (s_cast (index := 9) hq_205 ho_205 (List.mem_of_getElem? (i := 1750) (by decide +kernel)) (.inl ⟨by decide, rfl⟩) (by decide +kernel) rfl : e_Sn 205 144 (o_cast 18 147)) t_205_147 (e_cg_cast 18)
noncomputable def n_205_141 : e_Y := u_callV 18 227 2 21 2 n_227_0 n_205_144
theorem t_205_141 : e_Sn 205 141 (e_un n_205_141) := u_callVT rfl (s_callV (ci := 18) (C := er_18) (T := et_18) (N := 3) (index := 57) hq_205 ho_205 hy_227 hp_227 hc_227 hi_227 hd_227 (List.mem_of_getElem? (i := 2049) (by decide +kernel)) hs_227 (List.mem_of_getElem? (i := 2051) (by decide +kernel)) rfl (by decide +kernel) rfl : e_Sn 205 141 (o_callV (e_s1 18 227 2) 2 144)) t_227_0 t_205_144
noncomputable def n_205_140 : e_Y := u_ld f_okI f_l2 n_205_141
theorem t_205_140 : e_Sn 205 140 (e_un n_205_140) := u_ldIT f_l2_eq (s_iload (i := .iload_n 2) (len := 1) hq_205 (by decide +kernel) rfl (.inr ⟨2, rfl, rfl, rfl⟩) : e_Sn 205 140 (o_load e_okI 2 141)) t_205_141
noncomputable def n_205_137 : e_Y := u_getf 13 4 (u_old (o_getf (e_f1 13 4) 140) n_205_140) n_205_140
theorem t_205_137 : e_Sn 205 137 (e_un n_205_137) := u_getfT (s_getf (C := er_13) (T := et_13) (N := 13) (ref := "PlateroomprinterModel$Machine") (index := 34) (ci := 13) (k := 4) hq_205 ho_205 ⟨rfl, by decide, ei_13, (List.mem_of_getElem? (i := 1902) (by decide +kernel)), .inl rfl⟩ (by decide +kernel) rfl : e_Sn 205 137 (o_getf (e_f1 13 4) 140)) t_205_140
noncomputable def n_205_136 : e_Y := u_ld f_okA f_l0 n_205_137
theorem t_205_136 : e_Sn 205 136 (e_un n_205_136) := u_ldAT f_l0_eq (s_aload (i := .aload_n 0) (len := 1) hq_205 (by decide +kernel) rfl (.inr ⟨0, rfl, rfl, rfl⟩) : e_Sn 205 136 (o_load e_okR 0 137)) t_205_137
noncomputable def n_205_135 : e_Y := u_ld f_okI f_l2 n_205_136
theorem t_205_135 : e_Sn 205 135 (e_un n_205_135) := u_ldIT f_l2_eq (s_iload (i := .iload_n 2) (len := 1) hq_205 (by decide +kernel) rfl (.inr ⟨2, rfl, rfl, rfl⟩) : e_Sn 205 135 (o_load e_okI 2 136)) t_205_136
noncomputable def n_205_132 : e_Y := u_getf 13 4 (u_old (o_getf (e_f1 13 4) 135) n_205_135) n_205_135
theorem t_205_132 : e_Sn 205 132 (e_un n_205_132) := u_getfT (s_getf (C := er_13) (T := et_13) (N := 13) (ref := "PlateroomprinterModel$Machine") (index := 34) (ci := 13) (k := 4) hq_205 ho_205 ⟨rfl, by decide, ei_13, (List.mem_of_getElem? (i := 1902) (by decide +kernel)), .inl rfl⟩ (by decide +kernel) rfl : e_Sn 205 132 (o_getf (e_f1 13 4) 135)) t_205_135
noncomputable def n_205_131 : e_Y := u_ld f_okA f_l1 n_205_132
theorem t_205_131 : e_Sn 205 131 (e_un n_205_131) := u_ldAT f_l1_eq (s_aload (i := .aload_n 1) (len := 1) hq_205 (by decide +kernel) rfl (.inr ⟨1, rfl, rfl, rfl⟩) : e_Sn 205 131 (o_load e_okR 1 132)) t_205_132
noncomputable def n_205_128 : e_Y := u_jmp y_ge (u_old2 (o_clt 131 157) 131 n_205_131 n_205_157) n_205_131 n_205_157
theorem t_205_128 : e_Sn 205 128 (e_un n_205_128) := u_cltT rfl (s_cge (off := (29)) hq_205 (by decide +kernel) rfl rfl : e_Sn 205 128 (o_clt 131 157)) t_205_131 t_205_157
noncomputable def n_205_127 : e_Y := u_push (.inl 2147483653) n_205_128
theorem t_205_127 : e_Sn 205 127 (e_un n_205_127) := u_pushT (s_iconst (n := (5)) hq_205 (by decide +kernel) rfl ⟨by decide +kernel, by decide +kernel⟩ : e_Sn 205 127 (o_push (.inl 2147483653) 128)) t_205_128
noncomputable def n_205_126 : e_Y := u_ld f_okI f_l2 n_205_127
theorem t_205_126 : e_Sn 205 126 (e_un n_205_126) := u_ldIT f_l2_eq (s_iload (i := .iload_n 2) (len := 1) hq_205 (by decide +kernel) rfl (.inr ⟨2, rfl, rfl, rfl⟩) : e_Sn 205 126 (o_load e_okI 2 127)) t_205_127
noncomputable def n_205_125 : e_Y := u_st f_okI f_s2 n_205_126
theorem t_205_125 : e_Sn 205 125 (e_un n_205_125) := u_stIT (fun _ _ _ => f_s2_eq) (s_istore (i := .istore_n 2) (len := 1) hq_205 (by decide +kernel) rfl (.inr ⟨2, rfl, rfl, rfl⟩) : e_Sn 205 125 (o_store e_okI 2 126)) t_205_126
noncomputable def n_205_124 : e_Y := u_push (.inl 2147483648) n_205_125
theorem t_205_124 : e_Sn 205 124 (e_un n_205_124) := u_pushT (s_iconst (n := (0)) hq_205 (by decide +kernel) rfl ⟨by decide +kernel, by decide +kernel⟩ : e_Sn 205 124 (o_push (.inl 2147483648) 125)) t_205_125
noncomputable def n_205_93 : e_Y := u_jmp y_ge (u_old2 (o_clt 96 124) 96 (u_at 96) n_205_124) (u_at 96) n_205_124
theorem t_205_93 : e_Sn 205 93 (e_un n_205_93) := u_cltT rfl (s_cge (off := (31)) hq_205 (by decide +kernel) rfl rfl : e_Sn 205 93 (o_clt 96 124)) u_atT t_205_124
noncomputable def n_205_90 : e_Y := u_callV 18 234 1 20 1 n_234_0 n_205_93
theorem t_205_90 : e_Sn 205 90 (e_un n_205_90) := u_callVT rfl (s_callV (ci := 18) (C := er_18) (T := et_18) (N := 3) (index := 53) hq_205 ho_205 hy_234 hp_234 hc_234 hi_234 hd_234 (List.mem_of_getElem? (i := 2048) (by decide +kernel)) hs_234 (List.mem_of_getElem? (i := 2002) (by decide +kernel)) rfl (by decide +kernel) rfl : e_Sn 205 90 (o_callV (e_s1 18 234 1) 1 93)) t_234_0 t_205_93
noncomputable def n_205_87 : e_Y := u_getf 13 3 (u_old (o_getf (e_f1 13 3) 90) n_205_90) n_205_90
theorem t_205_87 : e_Sn 205 87 (e_un n_205_87) := u_getfT (s_getf (C := er_13) (T := et_13) (N := 13) (ref := "PlateroomprinterModel$Machine") (index := 31) (ci := 13) (k := 3) hq_205 ho_205 ⟨rfl, by decide, ei_13, (List.mem_of_getElem? (i := 1899) (by decide +kernel)), .inl rfl⟩ (by decide +kernel) rfl : e_Sn 205 87 (o_getf (e_f1 13 3) 90)) t_205_90
noncomputable def n_205_86 : e_Y := u_ld f_okA f_l0 n_205_87
theorem t_205_86 : e_Sn 205 86 (e_un n_205_86) := u_ldAT f_l0_eq (s_aload (i := .aload_n 0) (len := 1) hq_205 (by decide +kernel) rfl (.inr ⟨0, rfl, rfl, rfl⟩) : e_Sn 205 86 (o_load e_okR 0 87)) t_205_87
noncomputable def n_205_85 : e_Y := u_ld f_okI f_l2 n_205_86
theorem t_205_85 : e_Sn 205 85 (e_un n_205_85) := u_ldIT f_l2_eq (s_iload (i := .iload_n 2) (len := 1) hq_205 (by decide +kernel) rfl (.inr ⟨2, rfl, rfl, rfl⟩) : e_Sn 205 85 (o_load e_okI 2 86)) t_205_86
noncomputable def n_205_84 : e_Y := u_st f_okI f_s2 n_205_85
theorem t_205_84 : e_Sn 205 84 (e_un n_205_84) := u_stIT (fun _ _ _ => f_s2_eq) (s_istore (i := .istore_n 2) (len := 1) hq_205 (by decide +kernel) rfl (.inr ⟨2, rfl, rfl, rfl⟩) : e_Sn 205 84 (o_store e_okI 2 85)) t_205_85
noncomputable def n_205_83 : e_Y := u_push (.inl 2147483648) n_205_84
theorem t_205_83 : e_Sn 205 83 (e_un n_205_83) := u_pushT (s_iconst (n := (0)) hq_205 (by decide +kernel) rfl ⟨by decide +kernel, by decide +kernel⟩ : e_Sn 205 83 (o_push (.inl 2147483648) 84)) t_205_84
noncomputable def n_205_80 : e_Y := u_old (o_putf (e_f1 13 2) e_okR 83) n_205_83
theorem t_205_80 : e_Sn 205 80 (e_un n_205_80) := u_oldT (s_putf (ty0 := ey_13) (ok := e_okR) (C := er_13) (T := et_13) (N := 13) (ref := "PlateroomprinterModel$Machine") (index := 27) (ci := 13) (k := 2) hq_205 ho_205 ⟨rfl, by decide, ei_13, (List.mem_of_getElem? (i := 1896) (by decide +kernel)), .inl rfl⟩ eo_13 en_13 e_oksR (.inl rfl) (by decide +kernel) rfl : e_Sn 205 80 (o_putf (e_f1 13 2) e_okR 83)) t_205_83 (e_cg_putf (e_f1 13 2) e_okR)
noncomputable def n_205_77 : e_Y := u_callV 17 214 3 22 1 n_214_0 n_205_80
theorem t_205_77 : e_Sn 205 77 (e_un n_205_77) := u_callVT rfl (s_callV (ci := 17) (C := er_17) (T := et_17) (N := 6) (index := 61) hq_205 ho_205 hy_214 hp_214 hc_214 hi_214 hd_214 (List.mem_of_getElem? (i := 2057) (by decide +kernel)) hs_214 (List.mem_of_getElem? (i := 2059) (by decide +kernel)) rfl (by decide +kernel) rfl : e_Sn 205 77 (o_callV (e_s1 17 214 3) 1 80)) t_214_0 t_205_80
noncomputable def n_205_74 : e_Y := u_getf 13 2 (u_old (o_getf (e_f1 13 2) 77) n_205_77) n_205_77
theorem t_205_74 : e_Sn 205 74 (e_un n_205_74) := u_getfT (s_getf (C := er_13) (T := et_13) (N := 13) (ref := "PlateroomprinterModel$Machine") (index := 27) (ci := 13) (k := 2) hq_205 ho_205 ⟨rfl, by decide, ei_13, (List.mem_of_getElem? (i := 1896) (by decide +kernel)), .inl rfl⟩ (by decide +kernel) rfl : e_Sn 205 74 (o_getf (e_f1 13 2) 77)) t_205_77
noncomputable def n_205_73 : e_Y := u_ld f_okA f_l0 n_205_74
theorem t_205_73 : e_Sn 205 73 (e_un n_205_73) := u_ldAT f_l0_eq (s_aload (i := .aload_n 0) (len := 1) hq_205 (by decide +kernel) rfl (.inr ⟨0, rfl, rfl, rfl⟩) : e_Sn 205 73 (o_load e_okR 0 74)) t_205_74
noncomputable def n_205_72 : e_Y := u_ld f_okA f_l1 n_205_73
theorem t_205_72 : e_Sn 205 72 (e_un n_205_72) := u_ldAT f_l1_eq (s_aload (i := .aload_n 1) (len := 1) hq_205 (by decide +kernel) rfl (.inr ⟨1, rfl, rfl, rfl⟩) : e_Sn 205 72 (o_load e_okR 1 73)) t_205_73
noncomputable def n_205_69 : e_Y := (u_at 48)
theorem t_205_69 : e_Sn 205 69 (e_un n_205_69) := u_gotoT (s_goto (off := (-21)) hq_205 (by decide +kernel) rfl : e_Sn 205 69 (o_goto 48)) u_atT
noncomputable def n_205_66 : e_Y := u_inc f_l2 f_s2 1 n_205_69
theorem t_205_66 : e_Sn 205 66 (e_un n_205_66) := u_incT f_l2_eq (fun _ _ _ => f_s2_eq) (s_iinc (zz := (1)) hq_205 (by decide +kernel) rfl (by decide +kernel) ⟨by decide, by decide⟩ : e_Sn 205 66 (o_iinc 2 1 69)) t_205_69
noncomputable def n_205_65 : e_Y := u_old (o_astR 6 (fun _ => false) 66) n_205_66
theorem t_205_65 : e_Sn 205 65 (e_un n_205_65) := u_oldT (s_aast (tc := 3) (E := "PlateroomprinterModel$Item") hq_205 rfl (by decide) (fun k hk => by cases hk) (by decide +kernel) rfl : e_Sn 205 65 (o_astR 6 (fun _ => false) 66)) t_205_66 (e_cg_astR 6 (fun _ => false))
noncomputable def n_205_64 : e_Y := u_ald 6 (u_old (o_aldO 6 65) n_205_65) n_205_65
theorem t_205_64 : e_Sn 205 64 (e_un n_205_64) := u_aldOT (s_aald (tc := 3) rfl hq_205 (by decide +kernel) rfl : e_Sn 205 64 (o_aldO 6 65)) t_205_65
noncomputable def n_205_63 : e_Y := u_ld f_okI f_l2 n_205_64
theorem t_205_63 : e_Sn 205 63 (e_un n_205_63) := u_ldIT f_l2_eq (s_iload (i := .iload_n 2) (len := 1) hq_205 (by decide +kernel) rfl (.inr ⟨2, rfl, rfl, rfl⟩) : e_Sn 205 63 (o_load e_okI 2 64)) t_205_64
noncomputable def n_205_60 : e_Y := u_getf 13 1 (u_old (o_getf (e_f1 13 1) 63) n_205_63) n_205_63
theorem t_205_60 : e_Sn 205 60 (e_un n_205_60) := u_getfT (s_getf (C := er_13) (T := et_13) (N := 13) (ref := "PlateroomprinterModel$Machine") (index := 20) (ci := 13) (k := 1) hq_205 ho_205 ⟨rfl, by decide, ei_13, (List.mem_of_getElem? (i := 1893) (by decide +kernel)), .inl rfl⟩ (by decide +kernel) rfl : e_Sn 205 60 (o_getf (e_f1 13 1) 63)) t_205_63
noncomputable def n_205_59 : e_Y := u_ld f_okA f_l0 n_205_60
theorem t_205_59 : e_Sn 205 59 (e_un n_205_59) := u_ldAT f_l0_eq (s_aload (i := .aload_n 0) (len := 1) hq_205 (by decide +kernel) rfl (.inr ⟨0, rfl, rfl, rfl⟩) : e_Sn 205 59 (o_load e_okR 0 60)) t_205_60
noncomputable def n_205_58 : e_Y := u_ld f_okI f_l2 n_205_59
theorem t_205_58 : e_Sn 205 58 (e_un n_205_58) := u_ldIT f_l2_eq (s_iload (i := .iload_n 2) (len := 1) hq_205 (by decide +kernel) rfl (.inr ⟨2, rfl, rfl, rfl⟩) : e_Sn 205 58 (o_load e_okI 2 59)) t_205_59
noncomputable def n_205_55 : e_Y := u_getf 13 1 (u_old (o_getf (e_f1 13 1) 58) n_205_58) n_205_58
theorem t_205_55 : e_Sn 205 55 (e_un n_205_55) := u_getfT (s_getf (C := er_13) (T := et_13) (N := 13) (ref := "PlateroomprinterModel$Machine") (index := 20) (ci := 13) (k := 1) hq_205 ho_205 ⟨rfl, by decide, ei_13, (List.mem_of_getElem? (i := 1893) (by decide +kernel)), .inl rfl⟩ (by decide +kernel) rfl : e_Sn 205 55 (o_getf (e_f1 13 1) 58)) t_205_58
noncomputable def n_205_54 : e_Y := u_ld f_okA f_l1 n_205_55
theorem t_205_54 : e_Sn 205 54 (e_un n_205_54) := u_ldAT f_l1_eq (s_aload (i := .aload_n 1) (len := 1) hq_205 (by decide +kernel) rfl (.inr ⟨1, rfl, rfl, rfl⟩) : e_Sn 205 54 (o_load e_okR 1 55)) t_205_55
noncomputable def n_205_51 : e_Y := u_jmp y_ge (u_old2 (o_clt 54 72) 54 n_205_54 n_205_72) n_205_54 n_205_72
theorem t_205_51 : e_Sn 205 51 (e_un n_205_51) := u_cltT rfl (s_cge (off := (21)) hq_205 (by decide +kernel) rfl rfl : e_Sn 205 51 (o_clt 54 72)) t_205_54 t_205_72
noncomputable def n_205_49 : e_Y := u_push (.inl 2147483658) n_205_51
theorem t_205_49 : e_Sn 205 49 (e_un n_205_49) := u_pushT (s_bipush (n := (10)) hq_205 (by decide +kernel) rfl ⟨by decide +kernel, by decide +kernel⟩ : e_Sn 205 49 (o_push (.inl 2147483658) 51)) t_205_51
noncomputable def n_205_48 : e_Y := u_ld f_okI f_l2 n_205_49
theorem t_205_48 : e_Sn 205 48 (e_un n_205_48) := u_ldIT f_l2_eq (s_iload (i := .iload_n 2) (len := 1) hq_205 (by decide +kernel) rfl (.inr ⟨2, rfl, rfl, rfl⟩) : e_Sn 205 48 (o_load e_okI 2 49)) t_205_49
noncomputable def n_205_47 : e_Y := u_st f_okI f_s2 n_205_48
theorem t_205_47 : e_Sn 205 47 (e_un n_205_47) := u_stIT (fun _ _ _ => f_s2_eq) (s_istore (i := .istore_n 2) (len := 1) hq_205 (by decide +kernel) rfl (.inr ⟨2, rfl, rfl, rfl⟩) : e_Sn 205 47 (o_store e_okI 2 48)) t_205_48
noncomputable def n_205_46 : e_Y := u_push (.inl 2147483648) n_205_47
theorem t_205_46 : e_Sn 205 46 (e_un n_205_46) := u_pushT (s_iconst (n := (0)) hq_205 (by decide +kernel) rfl ⟨by decide +kernel, by decide +kernel⟩ : e_Sn 205 46 (o_push (.inl 2147483648) 47)) t_205_47
noncomputable def n_205_18 : e_Y := u_jmp y_ge (u_old2 (o_clt 21 46) 21 (u_at 21) n_205_46) (u_at 21) n_205_46
theorem t_205_18 : e_Sn 205 18 (e_un n_205_18) := u_cltT rfl (s_cge (off := (28)) hq_205 (by decide +kernel) rfl rfl : e_Sn 205 18 (o_clt 21 46)) u_atT t_205_46
noncomputable def n_205_15 : e_Y := u_callV 18 234 1 20 1 n_234_0 n_205_18
theorem t_205_15 : e_Sn 205 15 (e_un n_205_15) := u_callVT rfl (s_callV (ci := 18) (C := er_18) (T := et_18) (N := 3) (index := 53) hq_205 ho_205 hy_234 hp_234 hc_234 hi_234 hd_234 (List.mem_of_getElem? (i := 2048) (by decide +kernel)) hs_234 (List.mem_of_getElem? (i := 2002) (by decide +kernel)) rfl (by decide +kernel) rfl : e_Sn 205 15 (o_callV (e_s1 18 234 1) 1 18)) t_234_0 t_205_18
noncomputable def n_205_12 : e_Y := u_getf 13 0 (u_old (o_getf (e_f1 13 0) 15) n_205_15) n_205_15
theorem t_205_12 : e_Sn 205 12 (e_un n_205_12) := u_getfT (s_getf (C := er_13) (T := et_13) (N := 13) (ref := "PlateroomprinterModel$Machine") (index := 12) (ci := 13) (k := 0) hq_205 ho_205 ⟨rfl, by decide, ei_13, (List.mem_of_getElem? (i := 1890) (by decide +kernel)), .inl rfl⟩ (by decide +kernel) rfl : e_Sn 205 12 (o_getf (e_f1 13 0) 15)) t_205_15
noncomputable def n_205_11 : e_Y := u_ld f_okA f_l0 n_205_12
theorem t_205_11 : e_Sn 205 11 (e_un n_205_11) := u_ldAT f_l0_eq (s_aload (i := .aload_n 0) (len := 1) hq_205 (by decide +kernel) rfl (.inr ⟨0, rfl, rfl, rfl⟩) : e_Sn 205 11 (o_load e_okR 0 12)) t_205_12
noncomputable def n_205_10 : e_Y := u_ld f_okI f_l2 n_205_11
theorem t_205_10 : e_Sn 205 10 (e_un n_205_10) := u_ldIT f_l2_eq (s_iload (i := .iload_n 2) (len := 1) hq_205 (by decide +kernel) rfl (.inr ⟨2, rfl, rfl, rfl⟩) : e_Sn 205 10 (o_load e_okI 2 11)) t_205_11
noncomputable def n_205_9 : e_Y := u_st f_okI f_s2 n_205_10
theorem t_205_9 : e_Sn 205 9 (e_un n_205_9) := u_stIT (fun _ _ _ => f_s2_eq) (s_istore (i := .istore_n 2) (len := 1) hq_205 (by decide +kernel) rfl (.inr ⟨2, rfl, rfl, rfl⟩) : e_Sn 205 9 (o_store e_okI 2 10)) t_205_10
noncomputable def n_205_8 : e_Y := u_push (.inl 2147483648) n_205_9
theorem t_205_8 : e_Sn 205 8 (e_un n_205_8) := u_pushT (s_iconst (n := (0)) hq_205 (by decide +kernel) rfl ⟨by decide +kernel, by decide +kernel⟩ : e_Sn 205 8 (o_push (.inl 2147483648) 9)) t_205_9
noncomputable def n_205_7 : e_Y := u_st f_okA f_s1 n_205_8
theorem t_205_7 : e_Sn 205 7 (e_un n_205_7) := u_stAT (fun _ _ _ => f_s1_eq) (s_astore (i := .astore_n 1) (len := 1) hq_205 (by decide +kernel) rfl (.inr ⟨1, rfl, rfl, rfl⟩) : e_Sn 205 7 (o_store e_okR 1 8)) t_205_8
noncomputable def n_205_4 : e_Y := u_tab (o_callI 204 2 1 7)
theorem t_205_4 : e_Sn 205 4 (e_un n_205_4) := u_tabT (s_callI (index := 52) hq_205 ho_205 hy_204 hp_204 hc_204 hi_204 hd_204 (List.mem_of_getElem? (i := 2047) (by decide +kernel)) rfl rfl hs_204 (by decide +kernel) rfl : e_Sn 205 4 (o_callI 204 2 1 7))
noncomputable def n_205_3 : e_Y := u_old (o_dup 4) n_205_4
theorem t_205_3 : e_Sn 205 3 (e_un n_205_3) := u_oldT (s_dup hq_205 (by decide +kernel) rfl : e_Sn 205 3 (o_dup 4)) t_205_4 e_cg_dup
noncomputable def n_205_0 : e_Y := u_tab (o_new 13 13 ef_13 3)
theorem t_205_0 : e_Sn 205 0 (e_un n_205_0) := u_tabT (s_new (index := 13) (ci := 13) (N := 13) (C := er_13) (T := et_13) (ty0 := ey_13) (fv := eg_13) hq_205 ho_205 rfl ei_13 eo_13 (List.mem_of_getElem? (i := 2046) (by decide +kernel)) (List.mem_of_getElem? (i := 1745) (by decide +kernel)) (List.mem_of_getElem? (i := 152) (by decide +kernel)) eh_13 rfl (e_newrel ek_13) (by decide +kernel) rfl : e_Sn 205 0 (o_new 13 13 ef_13 3))
noncomputable def e_tb_205 : e_X := (e_br 7 (e_br 3 (e_lf 0 (e_un n_205_0)) (e_lf 3 (e_un n_205_3))) (e_br 48 (e_lf 7 (e_un n_205_7)) (e_br 126 (e_lf 48 (e_un n_205_48)) (e_lf 126 (e_un n_205_126)))))
theorem e_tk_205 : e_Tb 205 e_tb_205 := (e_brT (e_brT (e_lfT t_205_0) (e_lfT t_205_3)) (e_brT (e_lfT t_205_7) (e_brT (e_lfT t_205_48) (e_lfT t_205_126))))
theorem hq_207 : (e_ml[207]?).map (·.2.1) = some prog_19_method_1_code := rfl
theorem ho_207 : (e_ml[207]?).map (·.1.cls) = some "PlateroomprinterModel$Row" := rfl
theorem hr_207 : (e_ml[207]?).map (·.2.2.2) = some none := rfl
noncomputable def n_207_9 : e_Y := u_tab (o_retv)
theorem t_207_9 : e_Sn 207 9 (e_un n_207_9) := u_tabT (s_vret hq_207 hr_207 (by decide +kernel) : e_Sn 207 9 (o_retv))
noncomputable def n_207_6 : e_Y := u_old (o_putf (e_f1 15 0) e_okR 9) n_207_9
theorem t_207_6 : e_Sn 207 6 (e_un n_207_6) := u_oldT (s_putf (ty0 := ey_15) (ok := e_okR) (C := er_15) (T := et_15) (N := 8) (ref := "PlateroomprinterModel$Row") (index := 7) (ci := 15) (k := 0) hq_207 ho_207 ⟨rfl, by decide, ei_15, (List.mem_of_getElem? (i := 2122) (by decide +kernel)), .inl rfl⟩ eo_15 en_15 e_oksR (.inr ⟨rfl, rfl, rfl⟩) (by decide +kernel) rfl : e_Sn 207 6 (o_putf (e_f1 15 0) e_okR 9)) t_207_9 (e_cg_putf (e_f1 15 0) e_okR)
noncomputable def n_207_5 : e_Y := u_ld f_okA f_l1 n_207_6
theorem t_207_5 : e_Sn 207 5 (e_un n_207_5) := u_ldAT f_l1_eq (s_aload (i := .aload_n 1) (len := 1) hq_207 (by decide +kernel) rfl (.inr ⟨1, rfl, rfl, rfl⟩) : e_Sn 207 5 (o_load e_okR 1 6)) t_207_6
noncomputable def n_207_4 : e_Y := u_ld f_okA f_l0 n_207_5
theorem t_207_4 : e_Sn 207 4 (e_un n_207_4) := u_ldAT f_l0_eq (s_aload (i := .aload_n 0) (len := 1) hq_207 (by decide +kernel) rfl (.inr ⟨0, rfl, rfl, rfl⟩) : e_Sn 207 4 (o_load e_okR 0 5)) t_207_5
noncomputable def n_207_1 : e_Y := u_tab (o_oinit 4)
theorem t_207_1 : e_Sn 207 1 (e_un n_207_1) := u_tabT (s_oinit (idx := 1) hq_207 ho_207 (List.mem_of_getElem? (i := 2121) (by decide +kernel)) (List.mem_of_getElem? (i := 190) (by decide +kernel)) (List.mem_of_getElem? (i := 191) (by decide +kernel)) (by decide +kernel) rfl : e_Sn 207 1 (o_oinit 4))
noncomputable def n_207_0 : e_Y := u_ld f_okA f_l0 n_207_1
theorem t_207_0 : e_Sn 207 0 (e_un n_207_0) := u_ldAT f_l0_eq (s_aload (i := .aload_n 0) (len := 1) hq_207 (by decide +kernel) rfl (.inr ⟨0, rfl, rfl, rfl⟩) : e_Sn 207 0 (o_load e_okR 0 1)) t_207_1
noncomputable def e_tb_207 : e_X := (e_br 4 (e_lf 0 (e_un n_207_0)) (e_lf 4 (e_un n_207_4)))
theorem e_tk_207 : e_Tb 207 e_tb_207 := (e_brT (e_lfT t_207_0) (e_lfT t_207_4))
end SN
