/-! TABLES, by program -/
section SN
theorem hq_49 : (e_ml[49]?).map (·.2.1) = some prog_10_method_3_code := rfl
theorem ho_49 : (e_ml[49]?).map (·.1.cls) = some "Plateroomprinter$Sheet" := rfl
theorem hr_49 : (e_ml[49]?).map (·.2.2.2) = some none := rfl
noncomputable def n_49_27 : e_Y := u_tab (o_retv)
theorem t_49_27 : e_Sn 49 27 (e_un n_49_27) := u_tabT (s_vret hq_49 hr_49 (by decide +kernel) : e_Sn 49 27 (o_retv))
noncomputable def n_49_24 : e_Y := (u_at 2)
theorem t_49_24 : e_Sn 49 24 (e_un n_49_24) := u_gotoT (s_goto (off := (-22)) hq_49 (by decide +kernel) rfl : e_Sn 49 24 (o_goto 2)) u_atT
noncomputable def n_49_21 : e_Y := u_inc f_l2 f_s2 1 n_49_24
theorem t_49_21 : e_Sn 49 21 (e_un n_49_21) := u_incT f_l2_eq (fun _ _ _ => f_s2_eq) (s_iinc (zz := (1)) hq_49 (by decide +kernel) rfl (by decide +kernel) ⟨by decide, by decide⟩ : e_Sn 49 21 (o_iinc 2 1 24)) t_49_24
noncomputable def n_49_20 : e_Y := u_old (o_ast 0 e_okI 21) n_49_21
theorem t_49_20 : e_Sn 49 20 (e_un n_49_20) := u_oldT (s_iast hq_49 (by decide +kernel) rfl : e_Sn 49 20 (o_ast 0 e_okI 21)) t_49_21 (e_cg_ast 0 e_okI)
noncomputable def n_49_19 : e_Y := u_ald 0 (u_old (o_ald e_fcs 20) n_49_20) n_49_20
theorem t_49_19 : e_Sn 49 19 (e_un n_49_19) := u_aldT (s_iald hq_49 (by decide +kernel) rfl : e_Sn 49 19 (o_ald e_fcs 20)) t_49_20
noncomputable def n_49_18 : e_Y := u_ld f_okI f_l2 n_49_19
theorem t_49_18 : e_Sn 49 18 (e_un n_49_18) := u_ldIT f_l2_eq (s_iload (i := .iload_n 2) (len := 1) hq_49 (by decide +kernel) rfl (.inr ⟨2, rfl, rfl, rfl⟩) : e_Sn 49 18 (o_load e_okI 2 19)) t_49_19
noncomputable def n_49_15 : e_Y := u_getf 9 0 (u_old (o_getf (e_f1 9 0) 18) n_49_18) n_49_18
theorem t_49_15 : e_Sn 49 15 (e_un n_49_15) := u_getfT (s_getf (C := er_9) (T := et_9) (N := 1) (ref := "Plateroomprinter$Sheet") (index := 9) (ci := 9) (k := 0) hq_49 ho_49 ⟨rfl, by decide, ei_9, (List.mem_of_getElem? (i := 381) (by decide +kernel)), .inl rfl⟩ (by decide +kernel) rfl : e_Sn 49 15 (o_getf (e_f1 9 0) 18)) t_49_18
noncomputable def n_49_14 : e_Y := u_ld f_okA f_l1 n_49_15
theorem t_49_14 : e_Sn 49 14 (e_un n_49_14) := u_ldAT f_l1_eq (s_aload (i := .aload_n 1) (len := 1) hq_49 (by decide +kernel) rfl (.inr ⟨1, rfl, rfl, rfl⟩) : e_Sn 49 14 (o_load e_okR 1 15)) t_49_15
noncomputable def n_49_13 : e_Y := u_ld f_okI f_l2 n_49_14
theorem t_49_13 : e_Sn 49 13 (e_un n_49_13) := u_ldIT f_l2_eq (s_iload (i := .iload_n 2) (len := 1) hq_49 (by decide +kernel) rfl (.inr ⟨2, rfl, rfl, rfl⟩) : e_Sn 49 13 (o_load e_okI 2 14)) t_49_14
noncomputable def n_49_10 : e_Y := u_getf 9 0 (u_old (o_getf (e_f1 9 0) 13) n_49_13) n_49_13
theorem t_49_10 : e_Sn 49 10 (e_un n_49_10) := u_getfT (s_getf (C := er_9) (T := et_9) (N := 1) (ref := "Plateroomprinter$Sheet") (index := 9) (ci := 9) (k := 0) hq_49 ho_49 ⟨rfl, by decide, ei_9, (List.mem_of_getElem? (i := 381) (by decide +kernel)), .inl rfl⟩ (by decide +kernel) rfl : e_Sn 49 10 (o_getf (e_f1 9 0) 13)) t_49_13
noncomputable def n_49_9 : e_Y := u_ld f_okA f_l0 n_49_10
theorem t_49_9 : e_Sn 49 9 (e_un n_49_9) := u_ldAT f_l0_eq (s_aload (i := .aload_n 0) (len := 1) hq_49 (by decide +kernel) rfl (.inr ⟨0, rfl, rfl, rfl⟩) : e_Sn 49 9 (o_load e_okR 0 10)) t_49_10
noncomputable def n_49_6 : e_Y := u_jmp y_ge (u_old2 (o_clt 9 27) 9 n_49_9 n_49_27) n_49_9 n_49_27
theorem t_49_6 : e_Sn 49 6 (e_un n_49_6) := u_cltT rfl (s_cge (off := (21)) hq_49 (by decide +kernel) rfl rfl : e_Sn 49 6 (o_clt 9 27)) t_49_9 t_49_27
noncomputable def n_49_3 : e_Y := u_push (.inl 2147483776) n_49_6
theorem t_49_3 : e_Sn 49 3 (e_un n_49_3) := u_pushT (s_sipush (n := (128)) hq_49 (by decide +kernel) rfl ⟨by decide +kernel, by decide +kernel⟩ : e_Sn 49 3 (o_push (.inl 2147483776) 6)) t_49_6
noncomputable def n_49_2 : e_Y := u_ld f_okI f_l2 n_49_3
theorem t_49_2 : e_Sn 49 2 (e_un n_49_2) := u_ldIT f_l2_eq (s_iload (i := .iload_n 2) (len := 1) hq_49 (by decide +kernel) rfl (.inr ⟨2, rfl, rfl, rfl⟩) : e_Sn 49 2 (o_load e_okI 2 3)) t_49_3
noncomputable def n_49_1 : e_Y := u_st f_okI f_s2 n_49_2
theorem t_49_1 : e_Sn 49 1 (e_un n_49_1) := u_stIT (fun _ _ _ => f_s2_eq) (s_istore (i := .istore_n 2) (len := 1) hq_49 (by decide +kernel) rfl (.inr ⟨2, rfl, rfl, rfl⟩) : e_Sn 49 1 (o_store e_okI 2 2)) t_49_2
noncomputable def n_49_0 : e_Y := u_push (.inl 2147483648) n_49_1
theorem t_49_0 : e_Sn 49 0 (e_un n_49_0) := u_pushT (s_iconst (n := (0)) hq_49 (by decide +kernel) rfl ⟨by decide +kernel, by decide +kernel⟩ : e_Sn 49 0 (o_push (.inl 2147483648) 1)) t_49_1
noncomputable def e_tb_49 : e_X := (e_br 2 (e_lf 0 (e_un n_49_0)) (e_lf 2 (e_un n_49_2)))
theorem e_tk_49 : e_Tb 49 e_tb_49 := (e_brT (e_lfT t_49_0) (e_lfT t_49_2))
theorem hq_41 : (e_ml[41]?).map (·.2.1) = some prog_7_method_12_code := rfl
theorem ho_41 : (e_ml[41]?).map (·.1.cls) = some "Plateroomprinter$Painter" := rfl
theorem hr_41 : (e_ml[41]?).map (·.2.2.2) = some (some .int) := rfl
noncomputable def n_41_52 : e_Y := u_retI
theorem t_41_52 : e_Sn 41 52 (e_un n_41_52) := u_retIT (s_iret hq_41 hr_41 (by decide +kernel) : e_Sn 41 52 (o_ret e_okI))
noncomputable def n_41_51 : e_Y := u_push (.inl 2147483648) n_41_52
theorem t_41_51 : e_Sn 41 51 (e_un n_41_51) := u_pushT (s_iconst (n := (0)) hq_41 (by decide +kernel) rfl ⟨by decide +kernel, by decide +kernel⟩ : e_Sn 41 51 (o_push (.inl 2147483648) 52)) t_41_52
noncomputable def n_41_48 : e_Y := u_old (o_putf (e_f1 3 4) e_okI 51) n_41_51
theorem t_41_48 : e_Sn 41 48 (e_un n_41_48) := u_oldT (s_putf (ty0 := ey_3) (ok := e_okI) (C := er_3) (T := et_3) (N := 5) (ref := "Plateroomprinter$Figures") (index := 257) (ci := 3) (k := 4) hq_41 ho_41 ⟨rfl, by decide, ei_3, (List.mem_of_getElem? (i := 402) (by decide +kernel)), .inl rfl⟩ eo_3 en_3 e_oksI (.inl rfl) (by decide +kernel) rfl : e_Sn 41 48 (o_putf (e_f1 3 4) e_okI 51)) t_41_51 (e_cg_putf (e_f1 3 4) e_okI)
noncomputable def n_41_47 : e_Y := u_push (.inl 2147483648) n_41_48
theorem t_41_47 : e_Sn 41 47 (e_un n_41_47) := u_pushT (s_iconst (n := (0)) hq_41 (by decide +kernel) rfl ⟨by decide +kernel, by decide +kernel⟩ : e_Sn 41 47 (o_push (.inl 2147483648) 48)) t_41_48
noncomputable def n_41_44 : e_Y := u_getf 11 9 (u_old (o_getf (e_f1 11 9) 47) n_41_47) n_41_47
theorem t_41_44 : e_Sn 41 44 (e_un n_41_44) := u_getfT (s_getf (C := er_11) (T := et_11) (N := 15) (ref := "Plateroomprinter$World") (index := 253) (ci := 11) (k := 9) hq_41 ho_41 ⟨rfl, by decide, ei_11, (List.mem_of_getElem? (i := 486) (by decide +kernel)), .inl rfl⟩ (by decide +kernel) rfl : e_Sn 41 44 (o_getf (e_f1 11 9) 47)) t_41_47
noncomputable def n_41_41 : e_Y := u_getf 6 0 (u_old (o_getf (e_f1 6 0) 44) n_41_44) n_41_44
theorem t_41_41 : e_Sn 41 41 (e_un n_41_41) := u_getfT (s_getf (C := er_6) (T := et_6) (N := 17) (ref := "Plateroomprinter$Painter") (index := 40) (ci := 6) (k := 0) hq_41 ho_41 ⟨rfl, by decide, ei_6, (List.mem_of_getElem? (i := 558) (by decide +kernel)), .inl rfl⟩ (by decide +kernel) rfl : e_Sn 41 41 (o_getf (e_f1 6 0) 44)) t_41_44
noncomputable def n_41_40 : e_Y := u_ld f_okA f_l0 n_41_41
theorem t_41_40 : e_Sn 41 40 (e_un n_41_40) := u_ldAT f_l0_eq (s_aload (i := .aload_n 0) (len := 1) hq_41 (by decide +kernel) rfl (.inr ⟨0, rfl, rfl, rfl⟩) : e_Sn 41 40 (o_load e_okR 0 41)) t_41_41
noncomputable def n_41_37 : e_Y := u_callV 9 48 1 20 1 n_48_0 n_41_40
theorem t_41_37 : e_Sn 41 37 (e_un n_41_37) := u_callVT rfl (s_callV (ci := 9) (C := er_9) (T := et_9) (N := 1) (index := 250) hq_41 ho_41 hy_48 hp_48 hc_48 hi_48 hd_48 (List.mem_of_getElem? (i := 1142) (by decide +kernel)) hs_48 (List.mem_of_getElem? (i := 454) (by decide +kernel)) rfl (by decide +kernel) rfl : e_Sn 41 37 (o_callV (e_s1 9 48 1) 1 40)) t_48_0 t_41_40
noncomputable def n_41_34 : e_Y := u_getf 11 7 (u_old (o_getf (e_f1 11 7) 37) n_41_37) n_41_37
theorem t_41_34 : e_Sn 41 34 (e_un n_41_34) := u_getfT (s_getf (C := er_11) (T := et_11) (N := 15) (ref := "Plateroomprinter$World") (index := 242) (ci := 11) (k := 7) hq_41 ho_41 ⟨rfl, by decide, ei_11, (List.mem_of_getElem? (i := 480) (by decide +kernel)), .inl rfl⟩ (by decide +kernel) rfl : e_Sn 41 34 (o_getf (e_f1 11 7) 37)) t_41_37
noncomputable def n_41_31 : e_Y := u_getf 6 0 (u_old (o_getf (e_f1 6 0) 34) n_41_34) n_41_34
theorem t_41_31 : e_Sn 41 31 (e_un n_41_31) := u_getfT (s_getf (C := er_6) (T := et_6) (N := 17) (ref := "Plateroomprinter$Painter") (index := 40) (ci := 6) (k := 0) hq_41 ho_41 ⟨rfl, by decide, ei_6, (List.mem_of_getElem? (i := 558) (by decide +kernel)), .inl rfl⟩ (by decide +kernel) rfl : e_Sn 41 31 (o_getf (e_f1 6 0) 34)) t_41_34
noncomputable def n_41_30 : e_Y := u_ld f_okA f_l0 n_41_31
theorem t_41_30 : e_Sn 41 30 (e_un n_41_30) := u_ldAT f_l0_eq (s_aload (i := .aload_n 0) (len := 1) hq_41 (by decide +kernel) rfl (.inr ⟨0, rfl, rfl, rfl⟩) : e_Sn 41 30 (o_load e_okR 0 31)) t_41_31
noncomputable def n_41_27 : e_Y := u_callV 9 49 3 22 2 n_49_0 n_41_30
theorem t_41_27 : e_Sn 41 27 (e_un n_41_27) := u_callVT rfl (s_callV (ci := 9) (C := er_9) (T := et_9) (N := 1) (index := 245) hq_41 ho_41 hy_49 hp_49 hc_49 hi_49 hd_49 (List.mem_of_getElem? (i := 1141) (by decide +kernel)) hs_49 (List.mem_of_getElem? (i := 769) (by decide +kernel)) rfl (by decide +kernel) rfl : e_Sn 41 27 (o_callV (e_s1 9 49 3) 2 30)) t_49_0 t_41_30
noncomputable def n_41_24 : e_Y := u_getf 11 7 (u_old (o_getf (e_f1 11 7) 27) n_41_27) n_41_27
theorem t_41_24 : e_Sn 41 24 (e_un n_41_24) := u_getfT (s_getf (C := er_11) (T := et_11) (N := 15) (ref := "Plateroomprinter$World") (index := 242) (ci := 11) (k := 7) hq_41 ho_41 ⟨rfl, by decide, ei_11, (List.mem_of_getElem? (i := 480) (by decide +kernel)), .inl rfl⟩ (by decide +kernel) rfl : e_Sn 41 24 (o_getf (e_f1 11 7) 27)) t_41_27
noncomputable def n_41_21 : e_Y := u_getf 6 0 (u_old (o_getf (e_f1 6 0) 24) n_41_24) n_41_24
theorem t_41_21 : e_Sn 41 21 (e_un n_41_21) := u_getfT (s_getf (C := er_6) (T := et_6) (N := 17) (ref := "Plateroomprinter$Painter") (index := 40) (ci := 6) (k := 0) hq_41 ho_41 ⟨rfl, by decide, ei_6, (List.mem_of_getElem? (i := 558) (by decide +kernel)), .inl rfl⟩ (by decide +kernel) rfl : e_Sn 41 21 (o_getf (e_f1 6 0) 24)) t_41_24
noncomputable def n_41_20 : e_Y := u_ld f_okA f_l0 n_41_21
theorem t_41_20 : e_Sn 41 20 (e_un n_41_20) := u_ldAT f_l0_eq (s_aload (i := .aload_n 0) (len := 1) hq_41 (by decide +kernel) rfl (.inr ⟨0, rfl, rfl, rfl⟩) : e_Sn 41 20 (o_load e_okR 0 21)) t_41_21
noncomputable def n_41_17 : e_Y := u_getf 11 8 (u_old (o_getf (e_f1 11 8) 20) n_41_20) n_41_20
theorem t_41_17 : e_Sn 41 17 (e_un n_41_17) := u_getfT (s_getf (C := er_11) (T := et_11) (N := 15) (ref := "Plateroomprinter$World") (index := 238) (ci := 11) (k := 8) hq_41 ho_41 ⟨rfl, by decide, ei_11, (List.mem_of_getElem? (i := 483) (by decide +kernel)), .inl rfl⟩ (by decide +kernel) rfl : e_Sn 41 17 (o_getf (e_f1 11 8) 20)) t_41_20
noncomputable def n_41_14 : e_Y := u_getf 6 0 (u_old (o_getf (e_f1 6 0) 17) n_41_17) n_41_17
theorem t_41_14 : e_Sn 41 14 (e_un n_41_14) := u_getfT (s_getf (C := er_6) (T := et_6) (N := 17) (ref := "Plateroomprinter$Painter") (index := 40) (ci := 6) (k := 0) hq_41 ho_41 ⟨rfl, by decide, ei_6, (List.mem_of_getElem? (i := 558) (by decide +kernel)), .inl rfl⟩ (by decide +kernel) rfl : e_Sn 41 14 (o_getf (e_f1 6 0) 17)) t_41_17
noncomputable def n_41_13 : e_Y := u_ld f_okA f_l0 n_41_14
theorem t_41_13 : e_Sn 41 13 (e_un n_41_13) := u_ldAT f_l0_eq (s_aload (i := .aload_n 0) (len := 1) hq_41 (by decide +kernel) rfl (.inr ⟨0, rfl, rfl, rfl⟩) : e_Sn 41 13 (o_load e_okR 0 14)) t_41_14
noncomputable def n_41_10 : e_Y := u_old (o_putf (e_f1 11 10) e_okI 13) n_41_13
theorem t_41_10 : e_Sn 41 10 (e_un n_41_10) := u_oldT (s_putf (ty0 := ey_11) (ok := e_okI) (C := er_11) (T := et_11) (N := 15) (ref := "Plateroomprinter$World") (index := 235) (ci := 11) (k := 10) hq_41 ho_41 ⟨rfl, by decide, ei_11, (List.mem_of_getElem? (i := 490) (by decide +kernel)), .inl rfl⟩ eo_11 en_11 e_oksI (.inl rfl) (by decide +kernel) rfl : e_Sn 41 10 (o_putf (e_f1 11 10) e_okI 13)) t_41_13 (e_cg_putf (e_f1 11 10) e_okI)
noncomputable def n_41_9 : e_Y := u_bin a_iadd (u_old (o_iadd 10) n_41_10) n_41_10
theorem t_41_9 : e_Sn 41 9 (e_un n_41_9) := u_iaddT (s_iadd hq_41 (by decide +kernel) rfl : e_Sn 41 9 (o_iadd 10)) t_41_10
noncomputable def n_41_8 : e_Y := u_push (.inl 2147483649) n_41_9
theorem t_41_8 : e_Sn 41 8 (e_un n_41_8) := u_pushT (s_iconst (n := (1)) hq_41 (by decide +kernel) rfl ⟨by decide +kernel, by decide +kernel⟩ : e_Sn 41 8 (o_push (.inl 2147483649) 9)) t_41_9
noncomputable def n_41_5 : e_Y := u_getf 11 10 (u_old (o_getf (e_f1 11 10) 8) n_41_8) n_41_8
theorem t_41_5 : e_Sn 41 5 (e_un n_41_5) := u_getfT (s_getf (C := er_11) (T := et_11) (N := 15) (ref := "Plateroomprinter$World") (index := 235) (ci := 11) (k := 10) hq_41 ho_41 ⟨rfl, by decide, ei_11, (List.mem_of_getElem? (i := 490) (by decide +kernel)), .inl rfl⟩ (by decide +kernel) rfl : e_Sn 41 5 (o_getf (e_f1 11 10) 8)) t_41_8
noncomputable def n_41_4 : e_Y := u_old (o_dup 5) n_41_5
theorem t_41_4 : e_Sn 41 4 (e_un n_41_4) := u_oldT (s_dup hq_41 (by decide +kernel) rfl : e_Sn 41 4 (o_dup 5)) t_41_5 e_cg_dup
noncomputable def n_41_1 : e_Y := u_getf 6 0 (u_old (o_getf (e_f1 6 0) 4) n_41_4) n_41_4
theorem t_41_1 : e_Sn 41 1 (e_un n_41_1) := u_getfT (s_getf (C := er_6) (T := et_6) (N := 17) (ref := "Plateroomprinter$Painter") (index := 40) (ci := 6) (k := 0) hq_41 ho_41 ⟨rfl, by decide, ei_6, (List.mem_of_getElem? (i := 558) (by decide +kernel)), .inl rfl⟩ (by decide +kernel) rfl : e_Sn 41 1 (o_getf (e_f1 6 0) 4)) t_41_4
noncomputable def n_41_0 : e_Y := u_ld f_okA f_l0 n_41_1
theorem t_41_0 : e_Sn 41 0 (e_un n_41_0) := u_ldAT f_l0_eq (s_aload (i := .aload_n 0) (len := 1) hq_41 (by decide +kernel) rfl (.inr ⟨0, rfl, rfl, rfl⟩) : e_Sn 41 0 (o_load e_okR 0 1)) t_41_1
noncomputable def e_tb_41 : e_X := (e_lf 0 (e_un n_41_0))
theorem e_tk_41 : e_Tb 41 e_tb_41 := (e_lfT t_41_0)
theorem hq_40 : (e_ml[40]?).map (·.2.1) = some prog_7_method_3_code := rfl
theorem ho_40 : (e_ml[40]?).map (·.1.cls) = some "Plateroomprinter$Painter" := rfl
theorem hr_40 : (e_ml[40]?).map (·.2.2.2) = some (some .int) := rfl
noncomputable def n_40_282 : e_Y := u_retI
theorem t_40_282 : e_Sn 40 282 (e_un n_40_282) := u_retIT (s_iret hq_40 hr_40 (by decide +kernel) : e_Sn 40 282 (o_ret e_okI))
noncomputable def n_40_279 : e_Y := u_callV 6 41 1 20 1 n_41_0 n_40_282
theorem t_40_279 : e_Sn 40 279 (e_un n_40_279) := u_callVT rfl (s_callV (ci := 6) (C := er_6) (T := et_6) (N := 17) (index := 104) hq_40 ho_40 hy_41 hp_41 hc_41 hi_41 hd_41 (List.mem_of_getElem? (i := 1137) (by decide +kernel)) hs_41 (List.mem_of_getElem? (i := 35) (by decide +kernel)) rfl (by decide +kernel) rfl : e_Sn 40 279 (o_callV (e_s1 6 41 1) 1 282)) t_41_0 t_40_282
noncomputable def n_40_278 : e_Y := u_ld f_okA f_l0 n_40_279
theorem t_40_278 : e_Sn 40 278 (e_un n_40_278) := u_ldAT f_l0_eq (s_aload (i := .aload_n 0) (len := 1) hq_40 (by decide +kernel) rfl (.inr ⟨0, rfl, rfl, rfl⟩) : e_Sn 40 278 (o_load e_okR 0 279)) t_40_279
noncomputable def n_40_1 : e_Y := u_tab (o_switch 2147483669 [144, 149, 154, 171, 194, 209, 283, 283, 283, 283, 283, 283, 283, 283, 283, 283, 283, 283, 283, 283, 283, 283, 283, 283, 283, 283, 226, 236, 248, 256, 264, 278] 283)
theorem t_40_1 : e_Sn 40 1 (e_un n_40_1) := u_tabT (s_switch (dflt := (282)) (low := (21)) (hi := (52)) (offs := #[(143), (148), (153), (170), (193), (208), (282), (282), (282), (282), (282), (282), (282), (282), (282), (282), (282), (282), (282), (282), (282), (282), (282), (282), (282), (282), (225), (235), (247), (255), (263), (277)]) (len := 143) hq_40 (by decide +kernel) rfl rfl rfl rfl : e_Sn 40 1 (o_switch 2147483669 [144, 149, 154, 171, 194, 209, 283, 283, 283, 283, 283, 283, 283, 283, 283, 283, 283, 283, 283, 283, 283, 283, 283, 283, 283, 283, 226, 236, 248, 256, 264, 278] 283))
noncomputable def n_40_0 : e_Y := u_ld f_okI f_l1 n_40_1
theorem t_40_0 : e_Sn 40 0 (e_un n_40_0) := u_ldIT f_l1_eq (s_iload (i := .iload_n 1) (len := 1) hq_40 (by decide +kernel) rfl (.inr ⟨1, rfl, rfl, rfl⟩) : e_Sn 40 0 (o_load e_okI 1 1)) t_40_1
noncomputable def e_tb_40 : e_X := (e_br 278 (e_lf 0 (e_un n_40_0)) (e_lf 278 (e_un n_40_278)))
theorem e_tk_40 : e_Tb 40 e_tb_40 := (e_brT (e_lfT t_40_0) (e_lfT t_40_278))
theorem hq_42 : (e_ml[42]?).map (·.2.1) = some prog_7_method_2_code := rfl
theorem ho_42 : (e_ml[42]?).map (·.1.cls) = some "Plateroomprinter$Painter" := rfl
theorem hr_42 : (e_ml[42]?).map (·.2.2.2) = some (some .int) := rfl
noncomputable def n_42_11 : e_Y := u_retI
theorem t_42_11 : e_Sn 42 11 (e_un n_42_11) := u_retIT (s_iret hq_42 hr_42 (by decide +kernel) : e_Sn 42 11 (o_ret e_okI))
noncomputable def n_42_10 : e_Y := u_ld f_okI f_l1 n_42_11
theorem t_42_10 : e_Sn 42 10 (e_un n_42_10) := u_ldIT f_l1_eq (s_iload (i := .iload_n 1) (len := 1) hq_42 (by decide +kernel) rfl (.inr ⟨1, rfl, rfl, rfl⟩) : e_Sn 42 10 (o_load e_okI 1 11)) t_42_11
noncomputable def n_42_7 : e_Y := u_old (o_putf (e_f1 6 6) e_okI 10) n_42_10
theorem t_42_7 : e_Sn 42 7 (e_un n_42_7) := u_oldT (s_putf (ty0 := ey_6) (ok := e_okI) (C := er_6) (T := et_6) (N := 17) (ref := "Plateroomprinter$Painter") (index := 55) (ci := 6) (k := 6) hq_42 ho_42 ⟨rfl, by decide, ei_6, (List.mem_of_getElem? (i := 564) (by decide +kernel)), .inl rfl⟩ eo_6 en_6 e_oksI (.inl rfl) (by decide +kernel) rfl : e_Sn 42 7 (o_putf (e_f1 6 6) e_okI 10)) t_42_10 (e_cg_putf (e_f1 6 6) e_okI)
noncomputable def n_42_6 : e_Y := u_push (.inl 2147483648) n_42_7
theorem t_42_6 : e_Sn 42 6 (e_un n_42_6) := u_pushT (s_iconst (n := (0)) hq_42 (by decide +kernel) rfl ⟨by decide +kernel, by decide +kernel⟩ : e_Sn 42 6 (o_push (.inl 2147483648) 7)) t_42_7
noncomputable def n_42_5 : e_Y := u_ld f_okA f_l0 n_42_6
theorem t_42_5 : e_Sn 42 5 (e_un n_42_5) := u_ldAT f_l0_eq (s_aload (i := .aload_n 0) (len := 1) hq_42 (by decide +kernel) rfl (.inr ⟨0, rfl, rfl, rfl⟩) : e_Sn 42 5 (o_load e_okR 0 6)) t_42_6
noncomputable def n_42_4 : e_Y := u_st f_okI f_s1 n_42_5
theorem t_42_4 : e_Sn 42 4 (e_un n_42_4) := u_stIT (fun _ _ _ => f_s1_eq) (s_istore (i := .istore_n 1) (len := 1) hq_42 (by decide +kernel) rfl (.inr ⟨1, rfl, rfl, rfl⟩) : e_Sn 42 4 (o_store e_okI 1 5)) t_42_5
noncomputable def n_42_1 : e_Y := u_getf 6 6 (u_old (o_getf (e_f1 6 6) 4) n_42_4) n_42_4
theorem t_42_1 : e_Sn 42 1 (e_un n_42_1) := u_getfT (s_getf (C := er_6) (T := et_6) (N := 17) (ref := "Plateroomprinter$Painter") (index := 55) (ci := 6) (k := 6) hq_42 ho_42 ⟨rfl, by decide, ei_6, (List.mem_of_getElem? (i := 564) (by decide +kernel)), .inl rfl⟩ (by decide +kernel) rfl : e_Sn 42 1 (o_getf (e_f1 6 6) 4)) t_42_4
noncomputable def n_42_0 : e_Y := u_ld f_okA f_l0 n_42_1
theorem t_42_0 : e_Sn 42 0 (e_un n_42_0) := u_ldAT f_l0_eq (s_aload (i := .aload_n 0) (len := 1) hq_42 (by decide +kernel) rfl (.inr ⟨0, rfl, rfl, rfl⟩) : e_Sn 42 0 (o_load e_okR 0 1)) t_42_1
noncomputable def e_tb_42 : e_X := (e_lf 0 (e_un n_42_0))
theorem e_tk_42 : e_Tb 42 e_tb_42 := (e_lfT t_42_0)
theorem hq_27 : (e_ml[27]?).map (·.2.1) = some prog_4_method_2_code := rfl
theorem ho_27 : (e_ml[27]?).map (·.1.cls) = some "Plateroomprinter$Figures" := rfl
theorem hr_27 : (e_ml[27]?).map (·.2.2.2) = some none := rfl
noncomputable def n_27_107 : e_Y := u_tab (o_retv)
theorem t_27_107 : e_Sn 27 107 (e_un n_27_107) := u_tabT (s_vret hq_27 hr_27 (by decide +kernel) : e_Sn 27 107 (o_retv))
noncomputable def n_27_104 : e_Y := u_old (o_putf (e_f1 3 4) e_okI 107) n_27_107
theorem t_27_104 : e_Sn 27 104 (e_un n_27_104) := u_oldT (s_putf (ty0 := ey_3) (ok := e_okI) (C := er_3) (T := et_3) (N := 5) (ref := "Plateroomprinter$Figures") (index := 24) (ci := 3) (k := 4) hq_27 ho_27 ⟨rfl, by decide, ei_3, (List.mem_of_getElem? (i := 400) (by decide +kernel)), .inl rfl⟩ eo_3 en_3 e_oksI (.inl rfl) (by decide +kernel) rfl : e_Sn 27 104 (o_putf (e_f1 3 4) e_okI 107)) t_27_107 (e_cg_putf (e_f1 3 4) e_okI)
noncomputable def n_27_103 : e_Y := u_ld f_okI f_l2 n_27_104
theorem t_27_103 : e_Sn 27 103 (e_un n_27_103) := u_ldIT f_l2_eq (s_iload (i := .iload_n 2) (len := 1) hq_27 (by decide +kernel) rfl (.inr ⟨2, rfl, rfl, rfl⟩) : e_Sn 27 103 (o_load e_okI 2 104)) t_27_104
noncomputable def n_27_102 : e_Y := u_ld f_okA f_l0 n_27_103
theorem t_27_102 : e_Sn 27 102 (e_un n_27_102) := u_ldAT f_l0_eq (s_aload (i := .aload_n 0) (len := 1) hq_27 (by decide +kernel) rfl (.inr ⟨0, rfl, rfl, rfl⟩) : e_Sn 27 102 (o_load e_okR 0 103)) t_27_103
noncomputable def n_27_69 : e_Y := u_jmp y_ge (u_old2 (o_clt 72 102) 72 (u_at 72) n_27_102) (u_at 72) n_27_102
theorem t_27_69 : e_Sn 27 69 (e_un n_27_69) := u_cltT rfl (s_cge (off := (33)) hq_27 (by decide +kernel) rfl rfl : e_Sn 27 69 (o_clt 72 102)) u_atT t_27_102
noncomputable def n_27_68 : e_Y := u_ld f_okI f_l2 n_27_69
theorem t_27_68 : e_Sn 27 68 (e_un n_27_68) := u_ldIT f_l2_eq (s_iload (i := .iload_n 2) (len := 1) hq_27 (by decide +kernel) rfl (.inr ⟨2, rfl, rfl, rfl⟩) : e_Sn 27 68 (o_load e_okI 2 69)) t_27_69
noncomputable def n_27_67 : e_Y := u_ld f_okI f_l3 n_27_68
theorem t_27_67 : e_Sn 27 67 (e_un n_27_67) := u_ldIT f_l3_eq (s_iload (i := .iload_n 3) (len := 1) hq_27 (by decide +kernel) rfl (.inr ⟨3, rfl, rfl, rfl⟩) : e_Sn 27 67 (o_load e_okI 3 68)) t_27_68
noncomputable def n_27_66 : e_Y := u_st f_okI f_s3 n_27_67
theorem t_27_66 : e_Sn 27 66 (e_un n_27_66) := u_stIT (fun _ _ _ => f_s3_eq) (s_istore (i := .istore_n 3) (len := 1) hq_27 (by decide +kernel) rfl (.inr ⟨3, rfl, rfl, rfl⟩) : e_Sn 27 66 (o_store e_okI 3 67)) t_27_67
noncomputable def n_27_65 : e_Y := u_push (.inl 2147483648) n_27_66
theorem t_27_65 : e_Sn 27 65 (e_un n_27_65) := u_pushT (s_iconst (n := (0)) hq_27 (by decide +kernel) rfl ⟨by decide +kernel, by decide +kernel⟩ : e_Sn 27 65 (o_push (.inl 2147483648) 66)) t_27_66
noncomputable def n_27_44 : e_Y := u_jmp y_ge (u_old2 (o_clt 47 65) 47 (u_at 47) n_27_65) (u_at 47) n_27_65
theorem t_27_44 : e_Sn 27 44 (e_un n_27_44) := u_cltT rfl (s_cge (off := (21)) hq_27 (by decide +kernel) rfl rfl : e_Sn 27 44 (o_clt 47 65)) u_atT t_27_65
noncomputable def n_27_43 : e_Y := u_bin a_imul (u_old (o_imul 44) n_27_44) n_27_44
theorem t_27_43 : e_Sn 27 43 (e_un n_27_43) := u_imulT (s_imul hq_27 (by decide +kernel) rfl : e_Sn 27 43 (o_imul 44)) t_27_44
noncomputable def n_27_42 : e_Y := u_push (.inl 2147483652) n_27_43
theorem t_27_42 : e_Sn 27 42 (e_un n_27_42) := u_pushT (s_iconst (n := (4)) hq_27 (by decide +kernel) rfl ⟨by decide +kernel, by decide +kernel⟩ : e_Sn 27 42 (o_push (.inl 2147483652) 43)) t_27_43
noncomputable def n_27_41 : e_Y := u_ld f_okI f_l2 n_27_42
theorem t_27_41 : e_Sn 27 41 (e_un n_27_41) := u_ldIT f_l2_eq (s_iload (i := .iload_n 2) (len := 1) hq_27 (by decide +kernel) rfl (.inr ⟨2, rfl, rfl, rfl⟩) : e_Sn 27 41 (o_load e_okI 2 42)) t_27_42
noncomputable def n_27_40 : e_Y := u_ld f_okI f_l3 n_27_41
theorem t_27_40 : e_Sn 27 40 (e_un n_27_40) := u_ldIT f_l3_eq (s_iload (i := .iload_n 3) (len := 1) hq_27 (by decide +kernel) rfl (.inr ⟨3, rfl, rfl, rfl⟩) : e_Sn 27 40 (o_load e_okI 3 41)) t_27_41
noncomputable def n_27_39 : e_Y := u_st f_okI f_s3 n_27_40
theorem t_27_39 : e_Sn 27 39 (e_un n_27_39) := u_stIT (fun _ _ _ => f_s3_eq) (s_istore (i := .istore_n 3) (len := 1) hq_27 (by decide +kernel) rfl (.inr ⟨3, rfl, rfl, rfl⟩) : e_Sn 27 39 (o_store e_okI 3 40)) t_27_40
noncomputable def n_27_38 : e_Y := u_push (.inl 2147483648) n_27_39
theorem t_27_38 : e_Sn 27 38 (e_un n_27_38) := u_pushT (s_iconst (n := (0)) hq_27 (by decide +kernel) rfl ⟨by decide +kernel, by decide +kernel⟩ : e_Sn 27 38 (o_push (.inl 2147483648) 39)) t_27_39
noncomputable def n_27_17 : e_Y := u_jmp y_ge (u_old2 (o_clt 20 38) 20 (u_at 20) n_27_38) (u_at 20) n_27_38
theorem t_27_17 : e_Sn 27 17 (e_un n_27_17) := u_cltT rfl (s_cge (off := (21)) hq_27 (by decide +kernel) rfl rfl : e_Sn 27 17 (o_clt 20 38)) u_atT t_27_38
noncomputable def n_27_16 : e_Y := u_bin a_imul (u_old (o_imul 17) n_27_17) n_27_17
theorem t_27_16 : e_Sn 27 16 (e_un n_27_16) := u_imulT (s_imul hq_27 (by decide +kernel) rfl : e_Sn 27 16 (o_imul 17)) t_27_17
noncomputable def n_27_14 : e_Y := u_push (.inl 2147483680) n_27_16
theorem t_27_14 : e_Sn 27 14 (e_un n_27_14) := u_pushT (s_bipush (n := (32)) hq_27 (by decide +kernel) rfl ⟨by decide +kernel, by decide +kernel⟩ : e_Sn 27 14 (o_push (.inl 2147483680) 16)) t_27_16
noncomputable def n_27_13 : e_Y := u_ld f_okI f_l2 n_27_14
theorem t_27_13 : e_Sn 27 13 (e_un n_27_13) := u_ldIT f_l2_eq (s_iload (i := .iload_n 2) (len := 1) hq_27 (by decide +kernel) rfl (.inr ⟨2, rfl, rfl, rfl⟩) : e_Sn 27 13 (o_load e_okI 2 14)) t_27_14
noncomputable def n_27_12 : e_Y := u_ld f_okI f_l3 n_27_13
theorem t_27_12 : e_Sn 27 12 (e_un n_27_12) := u_ldIT f_l3_eq (s_iload (i := .iload_n 3) (len := 1) hq_27 (by decide +kernel) rfl (.inr ⟨3, rfl, rfl, rfl⟩) : e_Sn 27 12 (o_load e_okI 3 13)) t_27_13
noncomputable def n_27_11 : e_Y := u_st f_okI f_s3 n_27_12
theorem t_27_11 : e_Sn 27 11 (e_un n_27_11) := u_stIT (fun _ _ _ => f_s3_eq) (s_istore (i := .istore_n 3) (len := 1) hq_27 (by decide +kernel) rfl (.inr ⟨3, rfl, rfl, rfl⟩) : e_Sn 27 11 (o_store e_okI 3 12)) t_27_12
noncomputable def n_27_10 : e_Y := u_push (.inl 2147483648) n_27_11
theorem t_27_10 : e_Sn 27 10 (e_un n_27_10) := u_pushT (s_iconst (n := (0)) hq_27 (by decide +kernel) rfl ⟨by decide +kernel, by decide +kernel⟩ : e_Sn 27 10 (o_push (.inl 2147483648) 11)) t_27_11
noncomputable def n_27_9 : e_Y := u_st f_okI f_s2 n_27_10
theorem t_27_9 : e_Sn 27 9 (e_un n_27_9) := u_stIT (fun _ _ _ => f_s2_eq) (s_istore (i := .istore_n 2) (len := 1) hq_27 (by decide +kernel) rfl (.inr ⟨2, rfl, rfl, rfl⟩) : e_Sn 27 9 (o_store e_okI 2 10)) t_27_10
noncomputable def n_27_6 : e_Y := u_tab (o_mmin 9)
theorem t_27_6 : e_Sn 27 6 (e_un n_27_6) := u_tabT (s_mmin (index := 28) hq_27 ho_27 (List.mem_of_getElem? (i := 775) (by decide +kernel)) (List.mem_of_getElem? (i := 425) (by decide +kernel)) (List.mem_of_getElem? (i := 142) (by decide +kernel)) (List.mem_of_getElem? (i := 426) (by decide +kernel)) (by decide +kernel) rfl : e_Sn 27 6 (o_mmin 9))
noncomputable def n_27_4 : e_Y := u_push (.inl 2147483708) n_27_6
theorem t_27_4 : e_Sn 27 4 (e_un n_27_4) := u_pushT (s_bipush (n := (60)) hq_27 (by decide +kernel) rfl ⟨by decide +kernel, by decide +kernel⟩ : e_Sn 27 4 (o_push (.inl 2147483708) 6)) t_27_6
noncomputable def n_27_1 : e_Y := u_getf 3 4 (u_old (o_getf (e_f1 3 4) 4) n_27_4) n_27_4
theorem t_27_1 : e_Sn 27 1 (e_un n_27_1) := u_getfT (s_getf (C := er_3) (T := et_3) (N := 5) (ref := "Plateroomprinter$Figures") (index := 24) (ci := 3) (k := 4) hq_27 ho_27 ⟨rfl, by decide, ei_3, (List.mem_of_getElem? (i := 400) (by decide +kernel)), .inl rfl⟩ (by decide +kernel) rfl : e_Sn 27 1 (o_getf (e_f1 3 4) 4)) t_27_4
noncomputable def n_27_0 : e_Y := u_ld f_okA f_l1 n_27_1
theorem t_27_0 : e_Sn 27 0 (e_un n_27_0) := u_ldAT f_l1_eq (s_aload (i := .aload_n 1) (len := 1) hq_27 (by decide +kernel) rfl (.inr ⟨1, rfl, rfl, rfl⟩) : e_Sn 27 0 (o_load e_okR 1 1)) t_27_1
noncomputable def e_tb_27 : e_X := (e_br 9 (e_lf 0 (e_un n_27_0)) (e_lf 9 (e_un n_27_9)))
theorem e_tk_27 : e_Tb 27 e_tb_27 := (e_brT (e_lfT t_27_0) (e_lfT t_27_9))
theorem hq_30 : (e_ml[30]?).map (·.2.1) = some prog_5_method_3_code := rfl
theorem ho_30 : (e_ml[30]?).map (·.1.cls) = some "Plateroomprinter$Items" := rfl
theorem hr_30 : (e_ml[30]?).map (·.2.2.2) = some none := rfl
noncomputable def n_30_60 : e_Y := u_tab (o_retv)
theorem t_30_60 : e_Sn 30 60 (e_un n_30_60) := u_tabT (s_vret hq_30 hr_30 (by decide +kernel) : e_Sn 30 60 (o_retv))
noncomputable def n_30_57 : e_Y := (u_at 26)
theorem t_30_57 : e_Sn 30 57 (e_un n_30_57) := u_gotoT (s_goto (off := (-31)) hq_30 (by decide +kernel) rfl : e_Sn 30 57 (o_goto 26)) u_atT
noncomputable def n_30_54 : e_Y := u_inc f_l3 f_s3 1 n_30_57
theorem t_30_54 : e_Sn 30 54 (e_un n_30_54) := u_incT f_l3_eq (fun _ _ _ => f_s3_eq) (s_iinc (zz := (1)) hq_30 (by decide +kernel) rfl (by decide +kernel) ⟨by decide, by decide⟩ : e_Sn 30 54 (o_iinc 3 1 57)) t_30_57
noncomputable def n_30_51 : e_Y := u_callV 4 35 5 24 5 n_35_0 n_30_54
theorem t_30_51 : e_Sn 30 51 (e_un n_30_51) := u_callVT rfl (s_callV (ci := 4) (C := er_4) (T := et_4) (N := 5) (index := 37) hq_30 ho_30 hy_35 hp_35 hc_35 hi_35 hd_35 (List.mem_of_getElem? (i := 427) (by decide +kernel)) hs_35 (List.mem_of_getElem? (i := 429) (by decide +kernel)) rfl (by decide +kernel) rfl : e_Sn 30 51 (o_callV (e_s1 4 35 5) 5 54)) t_35_0 t_30_54
noncomputable def n_30_50 : e_Y := u_ald 0 (u_old (o_ald e_fcs 51) n_30_51) n_30_51
theorem t_30_50 : e_Sn 30 50 (e_un n_30_50) := u_aldT (s_iald hq_30 (by decide +kernel) rfl : e_Sn 30 50 (o_ald e_fcs 51)) t_30_51
noncomputable def n_30_49 : e_Y := u_ld f_okI f_l3 n_30_50
theorem t_30_49 : e_Sn 30 49 (e_un n_30_49) := u_ldIT f_l3_eq (s_iload (i := .iload_n 3) (len := 1) hq_30 (by decide +kernel) rfl (.inr ⟨3, rfl, rfl, rfl⟩) : e_Sn 30 49 (o_load e_okI 3 50)) t_30_50
noncomputable def n_30_46 : e_Y := u_getf 4 3 (u_old (o_getf (e_f1 4 3) 49) n_30_49) n_30_49
theorem t_30_46 : e_Sn 30 46 (e_un n_30_46) := u_getfT (s_getf (C := er_4) (T := et_4) (N := 5) (ref := "Plateroomprinter$Items") (index := 28) (ci := 4) (k := 3) hq_30 ho_30 ⟨rfl, by decide, ei_4, (List.mem_of_getElem? (i := 234) (by decide +kernel)), .inl rfl⟩ (by decide +kernel) rfl : e_Sn 30 46 (o_getf (e_f1 4 3) 49)) t_30_49
noncomputable def n_30_45 : e_Y := u_ld f_okA f_l1 n_30_46
theorem t_30_45 : e_Sn 30 45 (e_un n_30_45) := u_ldAT f_l1_eq (s_aload (i := .aload_n 1) (len := 1) hq_30 (by decide +kernel) rfl (.inr ⟨1, rfl, rfl, rfl⟩) : e_Sn 30 45 (o_load e_okR 1 46)) t_30_46
noncomputable def n_30_44 : e_Y := u_ald 0 (u_old (o_ald e_fcs 45) n_30_45) n_30_45
theorem t_30_44 : e_Sn 30 44 (e_un n_30_44) := u_aldT (s_iald hq_30 (by decide +kernel) rfl : e_Sn 30 44 (o_ald e_fcs 45)) t_30_45
noncomputable def n_30_43 : e_Y := u_ld f_okI f_l3 n_30_44
theorem t_30_43 : e_Sn 30 43 (e_un n_30_43) := u_ldIT f_l3_eq (s_iload (i := .iload_n 3) (len := 1) hq_30 (by decide +kernel) rfl (.inr ⟨3, rfl, rfl, rfl⟩) : e_Sn 30 43 (o_load e_okI 3 44)) t_30_44
noncomputable def n_30_40 : e_Y := u_getf 4 2 (u_old (o_getf (e_f1 4 2) 43) n_30_43) n_30_43
theorem t_30_40 : e_Sn 30 40 (e_un n_30_40) := u_getfT (s_getf (C := er_4) (T := et_4) (N := 5) (ref := "Plateroomprinter$Items") (index := 25) (ci := 4) (k := 2) hq_30 ho_30 ⟨rfl, by decide, ei_4, (List.mem_of_getElem? (i := 233) (by decide +kernel)), .inl rfl⟩ (by decide +kernel) rfl : e_Sn 30 40 (o_getf (e_f1 4 2) 43)) t_30_43
noncomputable def n_30_39 : e_Y := u_ld f_okA f_l1 n_30_40
theorem t_30_39 : e_Sn 30 39 (e_un n_30_39) := u_ldAT f_l1_eq (s_aload (i := .aload_n 1) (len := 1) hq_30 (by decide +kernel) rfl (.inr ⟨1, rfl, rfl, rfl⟩) : e_Sn 30 39 (o_load e_okR 1 40)) t_30_40
noncomputable def n_30_38 : e_Y := u_ald 0 (u_old (o_ald e_fcs 39) n_30_39) n_30_39
theorem t_30_38 : e_Sn 30 38 (e_un n_30_38) := u_aldT (s_iald hq_30 (by decide +kernel) rfl : e_Sn 30 38 (o_ald e_fcs 39)) t_30_39
noncomputable def n_30_37 : e_Y := u_ld f_okI f_l3 n_30_38
theorem t_30_37 : e_Sn 30 37 (e_un n_30_37) := u_ldIT f_l3_eq (s_iload (i := .iload_n 3) (len := 1) hq_30 (by decide +kernel) rfl (.inr ⟨3, rfl, rfl, rfl⟩) : e_Sn 30 37 (o_load e_okI 3 38)) t_30_38
noncomputable def n_30_34 : e_Y := u_getf 4 1 (u_old (o_getf (e_f1 4 1) 37) n_30_37) n_30_37
theorem t_30_34 : e_Sn 30 34 (e_un n_30_34) := u_getfT (s_getf (C := er_4) (T := et_4) (N := 5) (ref := "Plateroomprinter$Items") (index := 21) (ci := 4) (k := 1) hq_30 ho_30 ⟨rfl, by decide, ei_4, (List.mem_of_getElem? (i := 232) (by decide +kernel)), .inl rfl⟩ (by decide +kernel) rfl : e_Sn 30 34 (o_getf (e_f1 4 1) 37)) t_30_37
noncomputable def n_30_33 : e_Y := u_ld f_okA f_l1 n_30_34
theorem t_30_33 : e_Sn 30 33 (e_un n_30_33) := u_ldAT f_l1_eq (s_aload (i := .aload_n 1) (len := 1) hq_30 (by decide +kernel) rfl (.inr ⟨1, rfl, rfl, rfl⟩) : e_Sn 30 33 (o_load e_okR 1 34)) t_30_34
noncomputable def n_30_32 : e_Y := u_ld f_okI f_l3 n_30_33
theorem t_30_32 : e_Sn 30 32 (e_un n_30_32) := u_ldIT f_l3_eq (s_iload (i := .iload_n 3) (len := 1) hq_30 (by decide +kernel) rfl (.inr ⟨3, rfl, rfl, rfl⟩) : e_Sn 30 32 (o_load e_okI 3 33)) t_30_33
noncomputable def n_30_31 : e_Y := u_ld f_okA f_l0 n_30_32
theorem t_30_31 : e_Sn 30 31 (e_un n_30_31) := u_ldAT f_l0_eq (s_aload (i := .aload_n 0) (len := 1) hq_30 (by decide +kernel) rfl (.inr ⟨0, rfl, rfl, rfl⟩) : e_Sn 30 31 (o_load e_okR 0 32)) t_30_32
noncomputable def n_30_28 : e_Y := u_jmp y_ge (u_old2 (o_clt 31 60) 31 n_30_31 n_30_60) n_30_31 n_30_60
theorem t_30_28 : e_Sn 30 28 (e_un n_30_28) := u_cltT rfl (s_cge (off := (32)) hq_30 (by decide +kernel) rfl rfl : e_Sn 30 28 (o_clt 31 60)) t_30_31 t_30_60
noncomputable def n_30_27 : e_Y := u_ld f_okI f_l2 n_30_28
theorem t_30_27 : e_Sn 30 27 (e_un n_30_27) := u_ldIT f_l2_eq (s_iload (i := .iload_n 2) (len := 1) hq_30 (by decide +kernel) rfl (.inr ⟨2, rfl, rfl, rfl⟩) : e_Sn 30 27 (o_load e_okI 2 28)) t_30_28
noncomputable def n_30_26 : e_Y := u_ld f_okI f_l3 n_30_27
theorem t_30_26 : e_Sn 30 26 (e_un n_30_26) := u_ldIT f_l3_eq (s_iload (i := .iload_n 3) (len := 1) hq_30 (by decide +kernel) rfl (.inr ⟨3, rfl, rfl, rfl⟩) : e_Sn 30 26 (o_load e_okI 3 27)) t_30_27
noncomputable def n_30_25 : e_Y := u_st f_okI f_s3 n_30_26
theorem t_30_25 : e_Sn 30 25 (e_un n_30_25) := u_stIT (fun _ _ _ => f_s3_eq) (s_istore (i := .istore_n 3) (len := 1) hq_30 (by decide +kernel) rfl (.inr ⟨3, rfl, rfl, rfl⟩) : e_Sn 30 25 (o_store e_okI 3 26)) t_30_26
noncomputable def n_30_24 : e_Y := u_push (.inl 2147483648) n_30_25
theorem t_30_24 : e_Sn 30 24 (e_un n_30_24) := u_pushT (s_iconst (n := (0)) hq_30 (by decide +kernel) rfl ⟨by decide +kernel, by decide +kernel⟩ : e_Sn 30 24 (o_push (.inl 2147483648) 25)) t_30_25
noncomputable def n_30_21 : e_Y := u_old (o_putf (e_f1 4 4) e_okI 24) n_30_24
theorem t_30_21 : e_Sn 30 21 (e_un n_30_21) := u_oldT (s_putf (ty0 := ey_4) (ok := e_okI) (C := er_4) (T := et_4) (N := 5) (ref := "Plateroomprinter$Items") (index := 31) (ci := 4) (k := 4) hq_30 ho_30 ⟨rfl, by decide, ei_4, (List.mem_of_getElem? (i := 235) (by decide +kernel)), .inl rfl⟩ eo_4 en_4 e_oksI (.inl rfl) (by decide +kernel) rfl : e_Sn 30 21 (o_putf (e_f1 4 4) e_okI 24)) t_30_24 (e_cg_putf (e_f1 4 4) e_okI)
noncomputable def n_30_20 : e_Y := u_ld f_okI f_l2 n_30_21
theorem t_30_20 : e_Sn 30 20 (e_un n_30_20) := u_ldIT f_l2_eq (s_iload (i := .iload_n 2) (len := 1) hq_30 (by decide +kernel) rfl (.inr ⟨2, rfl, rfl, rfl⟩) : e_Sn 30 20 (o_load e_okI 2 21)) t_30_21
noncomputable def n_30_19 : e_Y := u_ld f_okA f_l0 n_30_20
theorem t_30_19 : e_Sn 30 19 (e_un n_30_19) := u_ldAT f_l0_eq (s_aload (i := .aload_n 0) (len := 1) hq_30 (by decide +kernel) rfl (.inr ⟨0, rfl, rfl, rfl⟩) : e_Sn 30 19 (o_load e_okR 0 20)) t_30_20
noncomputable def n_30_18 : e_Y := u_st f_okI f_s2 n_30_19
theorem t_30_18 : e_Sn 30 18 (e_un n_30_18) := u_stIT (fun _ _ _ => f_s2_eq) (s_istore (i := .istore_n 2) (len := 1) hq_30 (by decide +kernel) rfl (.inr ⟨2, rfl, rfl, rfl⟩) : e_Sn 30 18 (o_store e_okI 2 19)) t_30_19
noncomputable def n_30_15 : e_Y := u_tab (o_mmin 18)
theorem t_30_15 : e_Sn 30 15 (e_un n_30_15) := u_tabT (s_mmin (index := 34) hq_30 ho_30 (List.mem_of_getElem? (i := 424) (by decide +kernel)) (List.mem_of_getElem? (i := 425) (by decide +kernel)) (List.mem_of_getElem? (i := 142) (by decide +kernel)) (List.mem_of_getElem? (i := 426) (by decide +kernel)) (by decide +kernel) rfl : e_Sn 30 15 (o_mmin 18))
noncomputable def n_30_12 : e_Y := u_tab (o_mmin 15)
theorem t_30_12 : e_Sn 30 12 (e_un n_30_12) := u_tabT (s_mmin (index := 34) hq_30 ho_30 (List.mem_of_getElem? (i := 424) (by decide +kernel)) (List.mem_of_getElem? (i := 425) (by decide +kernel)) (List.mem_of_getElem? (i := 142) (by decide +kernel)) (List.mem_of_getElem? (i := 426) (by decide +kernel)) (by decide +kernel) rfl : e_Sn 30 12 (o_mmin 15))
noncomputable def n_30_9 : e_Y := u_getf 4 0 (u_old (o_getf (e_f1 4 0) 12) n_30_12) n_30_12
theorem t_30_9 : e_Sn 30 9 (e_un n_30_9) := u_getfT (s_getf (C := er_4) (T := et_4) (N := 5) (ref := "Plateroomprinter$Items") (index := 15) (ci := 4) (k := 0) hq_30 ho_30 ⟨rfl, by decide, ei_4, (List.mem_of_getElem? (i := 231) (by decide +kernel)), .inl rfl⟩ (by decide +kernel) rfl : e_Sn 30 9 (o_getf (e_f1 4 0) 12)) t_30_12
noncomputable def n_30_8 : e_Y := u_ld f_okA f_l1 n_30_9
theorem t_30_8 : e_Sn 30 8 (e_un n_30_8) := u_ldAT f_l1_eq (s_aload (i := .aload_n 1) (len := 1) hq_30 (by decide +kernel) rfl (.inr ⟨1, rfl, rfl, rfl⟩) : e_Sn 30 8 (o_load e_okR 1 9)) t_30_9
noncomputable def n_30_5 : e_Y := u_getf 4 0 (u_old (o_getf (e_f1 4 0) 8) n_30_8) n_30_8
theorem t_30_5 : e_Sn 30 5 (e_un n_30_5) := u_getfT (s_getf (C := er_4) (T := et_4) (N := 5) (ref := "Plateroomprinter$Items") (index := 15) (ci := 4) (k := 0) hq_30 ho_30 ⟨rfl, by decide, ei_4, (List.mem_of_getElem? (i := 231) (by decide +kernel)), .inl rfl⟩ (by decide +kernel) rfl : e_Sn 30 5 (o_getf (e_f1 4 0) 8)) t_30_8
noncomputable def n_30_4 : e_Y := u_ld f_okA f_l0 n_30_5
theorem t_30_4 : e_Sn 30 4 (e_un n_30_4) := u_ldAT f_l0_eq (s_aload (i := .aload_n 0) (len := 1) hq_30 (by decide +kernel) rfl (.inr ⟨0, rfl, rfl, rfl⟩) : e_Sn 30 4 (o_load e_okR 0 5)) t_30_5
noncomputable def n_30_1 : e_Y := u_getf 4 4 (u_old (o_getf (e_f1 4 4) 4) n_30_4) n_30_4
theorem t_30_1 : e_Sn 30 1 (e_un n_30_1) := u_getfT (s_getf (C := er_4) (T := et_4) (N := 5) (ref := "Plateroomprinter$Items") (index := 31) (ci := 4) (k := 4) hq_30 ho_30 ⟨rfl, by decide, ei_4, (List.mem_of_getElem? (i := 235) (by decide +kernel)), .inl rfl⟩ (by decide +kernel) rfl : e_Sn 30 1 (o_getf (e_f1 4 4) 4)) t_30_4
noncomputable def n_30_0 : e_Y := u_ld f_okA f_l1 n_30_1
theorem t_30_0 : e_Sn 30 0 (e_un n_30_0) := u_ldAT f_l1_eq (s_aload (i := .aload_n 1) (len := 1) hq_30 (by decide +kernel) rfl (.inr ⟨1, rfl, rfl, rfl⟩) : e_Sn 30 0 (o_load e_okR 1 1)) t_30_1
noncomputable def e_tb_30 : e_X := (e_br 18 (e_br 15 (e_lf 0 (e_un n_30_0)) (e_lf 15 (e_un n_30_15))) (e_br 26 (e_lf 18 (e_un n_30_18)) (e_lf 26 (e_un n_30_26))))
theorem e_tk_30 : e_Tb 30 e_tb_30 := (e_brT (e_brT (e_lfT t_30_0) (e_lfT t_30_15)) (e_brT (e_lfT t_30_18) (e_lfT t_30_26)))
theorem hq_45 : (e_ml[45]?).map (·.2.1) = some prog_8_method_3_code := rfl
theorem ho_45 : (e_ml[45]?).map (·.1.cls) = some "Plateroomprinter$Path" := rfl
theorem hr_45 : (e_ml[45]?).map (·.2.2.2) = some none := rfl
noncomputable def n_45_102 : e_Y := u_tab (o_retv)
theorem t_45_102 : e_Sn 45 102 (e_un n_45_102) := u_tabT (s_vret hq_45 hr_45 (by decide +kernel) : e_Sn 45 102 (o_retv))
noncomputable def n_45_99 : e_Y := u_tab (o_copy0 102)
theorem t_45_99 : e_Sn 45 99 (e_un n_45_99) := u_tabT (s_copy0 (index := 40) hq_45 ho_45 (List.mem_of_getElem? (i := 762) (by decide +kernel)) (List.mem_of_getElem? (i := 764) (by decide +kernel)) (List.mem_of_getElem? (i := 763) (by decide +kernel)) (List.mem_of_getElem? (i := 159) (by decide +kernel)) (by decide +kernel) rfl : e_Sn 45 99 (o_copy0 102))
noncomputable def n_45_96 : e_Y := u_getf 7 4 (u_old (o_getf (e_f1 7 4) 99) n_45_99) n_45_99
theorem t_45_96 : e_Sn 45 96 (e_un n_45_96) := u_getfT (s_getf (C := er_7) (T := et_7) (N := 6) (ref := "Plateroomprinter$Path") (index := 24) (ci := 7) (k := 4) hq_45 ho_45 ⟨rfl, by decide, ei_7, (List.mem_of_getElem? (i := 294) (by decide +kernel)), .inl rfl⟩ (by decide +kernel) rfl : e_Sn 45 96 (o_getf (e_f1 7 4) 99)) t_45_99
noncomputable def n_45_95 : e_Y := u_ld f_okA f_l0 n_45_96
theorem t_45_95 : e_Sn 45 95 (e_un n_45_95) := u_ldAT f_l0_eq (s_aload (i := .aload_n 0) (len := 1) hq_45 (by decide +kernel) rfl (.inr ⟨0, rfl, rfl, rfl⟩) : e_Sn 45 95 (o_load e_okR 0 96)) t_45_96
noncomputable def n_45_94 : e_Y := u_push (.inl 2147483648) n_45_95
theorem t_45_94 : e_Sn 45 94 (e_un n_45_94) := u_pushT (s_iconst (n := (0)) hq_45 (by decide +kernel) rfl ⟨by decide +kernel, by decide +kernel⟩ : e_Sn 45 94 (o_push (.inl 2147483648) 95)) t_45_95
noncomputable def n_45_91 : e_Y := u_getf 7 3 (u_old (o_getf (e_f1 7 3) 94) n_45_94) n_45_94
theorem t_45_91 : e_Sn 45 91 (e_un n_45_91) := u_getfT (s_getf (C := er_7) (T := et_7) (N := 6) (ref := "Plateroomprinter$Path") (index := 21) (ci := 7) (k := 3) hq_45 ho_45 ⟨rfl, by decide, ei_7, (List.mem_of_getElem? (i := 291) (by decide +kernel)), .inl rfl⟩ (by decide +kernel) rfl : e_Sn 45 91 (o_getf (e_f1 7 3) 94)) t_45_94
noncomputable def n_45_90 : e_Y := u_ld f_okA f_l0 n_45_91
theorem t_45_90 : e_Sn 45 90 (e_un n_45_90) := u_ldAT f_l0_eq (s_aload (i := .aload_n 0) (len := 1) hq_45 (by decide +kernel) rfl (.inr ⟨0, rfl, rfl, rfl⟩) : e_Sn 45 90 (o_load e_okR 0 91)) t_45_91
noncomputable def n_45_89 : e_Y := u_push (.inl 2147483648) n_45_90
theorem t_45_89 : e_Sn 45 89 (e_un n_45_89) := u_pushT (s_iconst (n := (0)) hq_45 (by decide +kernel) rfl ⟨by decide +kernel, by decide +kernel⟩ : e_Sn 45 89 (o_push (.inl 2147483648) 90)) t_45_90
noncomputable def n_45_86 : e_Y := u_getf 7 3 (u_old (o_getf (e_f1 7 3) 89) n_45_89) n_45_89
theorem t_45_86 : e_Sn 45 86 (e_un n_45_86) := u_getfT (s_getf (C := er_7) (T := et_7) (N := 6) (ref := "Plateroomprinter$Path") (index := 21) (ci := 7) (k := 3) hq_45 ho_45 ⟨rfl, by decide, ei_7, (List.mem_of_getElem? (i := 291) (by decide +kernel)), .inl rfl⟩ (by decide +kernel) rfl : e_Sn 45 86 (o_getf (e_f1 7 3) 89)) t_45_89
noncomputable def n_45_85 : e_Y := u_ld f_okA f_l1 n_45_86
theorem t_45_85 : e_Sn 45 85 (e_un n_45_85) := u_ldAT f_l1_eq (s_aload (i := .aload_n 1) (len := 1) hq_45 (by decide +kernel) rfl (.inr ⟨1, rfl, rfl, rfl⟩) : e_Sn 45 85 (o_load e_okR 1 86)) t_45_86
noncomputable def n_45_82 : e_Y := u_tab (o_copy0 85)
theorem t_45_82 : e_Sn 45 82 (e_un n_45_82) := u_tabT (s_copy0 (index := 40) hq_45 ho_45 (List.mem_of_getElem? (i := 762) (by decide +kernel)) (List.mem_of_getElem? (i := 764) (by decide +kernel)) (List.mem_of_getElem? (i := 763) (by decide +kernel)) (List.mem_of_getElem? (i := 159) (by decide +kernel)) (by decide +kernel) rfl : e_Sn 45 82 (o_copy0 85))
noncomputable def n_45_79 : e_Y := u_getf 7 4 (u_old (o_getf (e_f1 7 4) 82) n_45_82) n_45_82
theorem t_45_79 : e_Sn 45 79 (e_un n_45_79) := u_getfT (s_getf (C := er_7) (T := et_7) (N := 6) (ref := "Plateroomprinter$Path") (index := 24) (ci := 7) (k := 4) hq_45 ho_45 ⟨rfl, by decide, ei_7, (List.mem_of_getElem? (i := 294) (by decide +kernel)), .inl rfl⟩ (by decide +kernel) rfl : e_Sn 45 79 (o_getf (e_f1 7 4) 82)) t_45_82
noncomputable def n_45_78 : e_Y := u_ld f_okA f_l0 n_45_79
theorem t_45_78 : e_Sn 45 78 (e_un n_45_78) := u_ldAT f_l0_eq (s_aload (i := .aload_n 0) (len := 1) hq_45 (by decide +kernel) rfl (.inr ⟨0, rfl, rfl, rfl⟩) : e_Sn 45 78 (o_load e_okR 0 79)) t_45_79
noncomputable def n_45_77 : e_Y := u_push (.inl 2147483648) n_45_78
theorem t_45_77 : e_Sn 45 77 (e_un n_45_77) := u_pushT (s_iconst (n := (0)) hq_45 (by decide +kernel) rfl ⟨by decide +kernel, by decide +kernel⟩ : e_Sn 45 77 (o_push (.inl 2147483648) 78)) t_45_78
noncomputable def n_45_74 : e_Y := u_getf 7 2 (u_old (o_getf (e_f1 7 2) 77) n_45_77) n_45_77
theorem t_45_74 : e_Sn 45 74 (e_un n_45_74) := u_getfT (s_getf (C := er_7) (T := et_7) (N := 6) (ref := "Plateroomprinter$Path") (index := 18) (ci := 7) (k := 2) hq_45 ho_45 ⟨rfl, by decide, ei_7, (List.mem_of_getElem? (i := 290) (by decide +kernel)), .inl rfl⟩ (by decide +kernel) rfl : e_Sn 45 74 (o_getf (e_f1 7 2) 77)) t_45_77
noncomputable def n_45_73 : e_Y := u_ld f_okA f_l0 n_45_74
theorem t_45_73 : e_Sn 45 73 (e_un n_45_73) := u_ldAT f_l0_eq (s_aload (i := .aload_n 0) (len := 1) hq_45 (by decide +kernel) rfl (.inr ⟨0, rfl, rfl, rfl⟩) : e_Sn 45 73 (o_load e_okR 0 74)) t_45_74
noncomputable def n_45_72 : e_Y := u_push (.inl 2147483648) n_45_73
theorem t_45_72 : e_Sn 45 72 (e_un n_45_72) := u_pushT (s_iconst (n := (0)) hq_45 (by decide +kernel) rfl ⟨by decide +kernel, by decide +kernel⟩ : e_Sn 45 72 (o_push (.inl 2147483648) 73)) t_45_73
noncomputable def n_45_69 : e_Y := u_getf 7 2 (u_old (o_getf (e_f1 7 2) 72) n_45_72) n_45_72
theorem t_45_69 : e_Sn 45 69 (e_un n_45_69) := u_getfT (s_getf (C := er_7) (T := et_7) (N := 6) (ref := "Plateroomprinter$Path") (index := 18) (ci := 7) (k := 2) hq_45 ho_45 ⟨rfl, by decide, ei_7, (List.mem_of_getElem? (i := 290) (by decide +kernel)), .inl rfl⟩ (by decide +kernel) rfl : e_Sn 45 69 (o_getf (e_f1 7 2) 72)) t_45_72
noncomputable def n_45_68 : e_Y := u_ld f_okA f_l1 n_45_69
theorem t_45_68 : e_Sn 45 68 (e_un n_45_68) := u_ldAT f_l1_eq (s_aload (i := .aload_n 1) (len := 1) hq_45 (by decide +kernel) rfl (.inr ⟨1, rfl, rfl, rfl⟩) : e_Sn 45 68 (o_load e_okR 1 69)) t_45_69
noncomputable def n_45_65 : e_Y := u_tab (o_copy0 68)
theorem t_45_65 : e_Sn 45 65 (e_un n_45_65) := u_tabT (s_copy0 (index := 40) hq_45 ho_45 (List.mem_of_getElem? (i := 762) (by decide +kernel)) (List.mem_of_getElem? (i := 764) (by decide +kernel)) (List.mem_of_getElem? (i := 763) (by decide +kernel)) (List.mem_of_getElem? (i := 159) (by decide +kernel)) (by decide +kernel) rfl : e_Sn 45 65 (o_copy0 68))
noncomputable def n_45_62 : e_Y := u_getf 7 5 (u_old (o_getf (e_f1 7 5) 65) n_45_65) n_45_65
theorem t_45_62 : e_Sn 45 62 (e_un n_45_62) := u_getfT (s_getf (C := er_7) (T := et_7) (N := 6) (ref := "Plateroomprinter$Path") (index := 28) (ci := 7) (k := 5) hq_45 ho_45 ⟨rfl, by decide, ei_7, (List.mem_of_getElem? (i := 299) (by decide +kernel)), .inl rfl⟩ (by decide +kernel) rfl : e_Sn 45 62 (o_getf (e_f1 7 5) 65)) t_45_65
noncomputable def n_45_61 : e_Y := u_ld f_okA f_l0 n_45_62
theorem t_45_61 : e_Sn 45 61 (e_un n_45_61) := u_ldAT f_l0_eq (s_aload (i := .aload_n 0) (len := 1) hq_45 (by decide +kernel) rfl (.inr ⟨0, rfl, rfl, rfl⟩) : e_Sn 45 61 (o_load e_okR 0 62)) t_45_62
noncomputable def n_45_60 : e_Y := u_push (.inl 2147483648) n_45_61
theorem t_45_60 : e_Sn 45 60 (e_un n_45_60) := u_pushT (s_iconst (n := (0)) hq_45 (by decide +kernel) rfl ⟨by decide +kernel, by decide +kernel⟩ : e_Sn 45 60 (o_push (.inl 2147483648) 61)) t_45_61
noncomputable def n_45_57 : e_Y := u_getf 7 1 (u_old (o_getf (e_f1 7 1) 60) n_45_60) n_45_60
theorem t_45_57 : e_Sn 45 57 (e_un n_45_57) := u_getfT (s_getf (C := er_7) (T := et_7) (N := 6) (ref := "Plateroomprinter$Path") (index := 15) (ci := 7) (k := 1) hq_45 ho_45 ⟨rfl, by decide, ei_7, (List.mem_of_getElem? (i := 288) (by decide +kernel)), .inl rfl⟩ (by decide +kernel) rfl : e_Sn 45 57 (o_getf (e_f1 7 1) 60)) t_45_60
noncomputable def n_45_56 : e_Y := u_ld f_okA f_l0 n_45_57
theorem t_45_56 : e_Sn 45 56 (e_un n_45_56) := u_ldAT f_l0_eq (s_aload (i := .aload_n 0) (len := 1) hq_45 (by decide +kernel) rfl (.inr ⟨0, rfl, rfl, rfl⟩) : e_Sn 45 56 (o_load e_okR 0 57)) t_45_57
noncomputable def n_45_55 : e_Y := u_push (.inl 2147483648) n_45_56
theorem t_45_55 : e_Sn 45 55 (e_un n_45_55) := u_pushT (s_iconst (n := (0)) hq_45 (by decide +kernel) rfl ⟨by decide +kernel, by decide +kernel⟩ : e_Sn 45 55 (o_push (.inl 2147483648) 56)) t_45_56
noncomputable def n_45_52 : e_Y := u_getf 7 1 (u_old (o_getf (e_f1 7 1) 55) n_45_55) n_45_55
theorem t_45_52 : e_Sn 45 52 (e_un n_45_52) := u_getfT (s_getf (C := er_7) (T := et_7) (N := 6) (ref := "Plateroomprinter$Path") (index := 15) (ci := 7) (k := 1) hq_45 ho_45 ⟨rfl, by decide, ei_7, (List.mem_of_getElem? (i := 288) (by decide +kernel)), .inl rfl⟩ (by decide +kernel) rfl : e_Sn 45 52 (o_getf (e_f1 7 1) 55)) t_45_55
noncomputable def n_45_51 : e_Y := u_ld f_okA f_l1 n_45_52
theorem t_45_51 : e_Sn 45 51 (e_un n_45_51) := u_ldAT f_l1_eq (s_aload (i := .aload_n 1) (len := 1) hq_45 (by decide +kernel) rfl (.inr ⟨1, rfl, rfl, rfl⟩) : e_Sn 45 51 (o_load e_okR 1 52)) t_45_52
noncomputable def n_45_48 : e_Y := u_tab (o_copy0 51)
theorem t_45_48 : e_Sn 45 48 (e_un n_45_48) := u_tabT (s_copy0 (index := 40) hq_45 ho_45 (List.mem_of_getElem? (i := 762) (by decide +kernel)) (List.mem_of_getElem? (i := 764) (by decide +kernel)) (List.mem_of_getElem? (i := 763) (by decide +kernel)) (List.mem_of_getElem? (i := 159) (by decide +kernel)) (by decide +kernel) rfl : e_Sn 45 48 (o_copy0 51))
noncomputable def n_45_45 : e_Y := u_getf 7 5 (u_old (o_getf (e_f1 7 5) 48) n_45_48) n_45_48
theorem t_45_45 : e_Sn 45 45 (e_un n_45_45) := u_getfT (s_getf (C := er_7) (T := et_7) (N := 6) (ref := "Plateroomprinter$Path") (index := 28) (ci := 7) (k := 5) hq_45 ho_45 ⟨rfl, by decide, ei_7, (List.mem_of_getElem? (i := 299) (by decide +kernel)), .inl rfl⟩ (by decide +kernel) rfl : e_Sn 45 45 (o_getf (e_f1 7 5) 48)) t_45_48
noncomputable def n_45_44 : e_Y := u_ld f_okA f_l0 n_45_45
theorem t_45_44 : e_Sn 45 44 (e_un n_45_44) := u_ldAT f_l0_eq (s_aload (i := .aload_n 0) (len := 1) hq_45 (by decide +kernel) rfl (.inr ⟨0, rfl, rfl, rfl⟩) : e_Sn 45 44 (o_load e_okR 0 45)) t_45_45
noncomputable def n_45_43 : e_Y := u_push (.inl 2147483648) n_45_44
theorem t_45_43 : e_Sn 45 43 (e_un n_45_43) := u_pushT (s_iconst (n := (0)) hq_45 (by decide +kernel) rfl ⟨by decide +kernel, by decide +kernel⟩ : e_Sn 45 43 (o_push (.inl 2147483648) 44)) t_45_44
noncomputable def n_45_40 : e_Y := u_getf 7 0 (u_old (o_getf (e_f1 7 0) 43) n_45_43) n_45_43
theorem t_45_40 : e_Sn 45 40 (e_un n_45_40) := u_getfT (s_getf (C := er_7) (T := et_7) (N := 6) (ref := "Plateroomprinter$Path") (index := 9) (ci := 7) (k := 0) hq_45 ho_45 ⟨rfl, by decide, ei_7, (List.mem_of_getElem? (i := 286) (by decide +kernel)), .inl rfl⟩ (by decide +kernel) rfl : e_Sn 45 40 (o_getf (e_f1 7 0) 43)) t_45_43
noncomputable def n_45_39 : e_Y := u_ld f_okA f_l0 n_45_40
theorem t_45_39 : e_Sn 45 39 (e_un n_45_39) := u_ldAT f_l0_eq (s_aload (i := .aload_n 0) (len := 1) hq_45 (by decide +kernel) rfl (.inr ⟨0, rfl, rfl, rfl⟩) : e_Sn 45 39 (o_load e_okR 0 40)) t_45_40
noncomputable def n_45_38 : e_Y := u_push (.inl 2147483648) n_45_39
theorem t_45_38 : e_Sn 45 38 (e_un n_45_38) := u_pushT (s_iconst (n := (0)) hq_45 (by decide +kernel) rfl ⟨by decide +kernel, by decide +kernel⟩ : e_Sn 45 38 (o_push (.inl 2147483648) 39)) t_45_39
noncomputable def n_45_35 : e_Y := u_getf 7 0 (u_old (o_getf (e_f1 7 0) 38) n_45_38) n_45_38
theorem t_45_35 : e_Sn 45 35 (e_un n_45_35) := u_getfT (s_getf (C := er_7) (T := et_7) (N := 6) (ref := "Plateroomprinter$Path") (index := 9) (ci := 7) (k := 0) hq_45 ho_45 ⟨rfl, by decide, ei_7, (List.mem_of_getElem? (i := 286) (by decide +kernel)), .inl rfl⟩ (by decide +kernel) rfl : e_Sn 45 35 (o_getf (e_f1 7 0) 38)) t_45_38
noncomputable def n_45_34 : e_Y := u_ld f_okA f_l1 n_45_35
theorem t_45_34 : e_Sn 45 34 (e_un n_45_34) := u_ldAT f_l1_eq (s_aload (i := .aload_n 1) (len := 1) hq_45 (by decide +kernel) rfl (.inr ⟨1, rfl, rfl, rfl⟩) : e_Sn 45 34 (o_load e_okR 1 35)) t_45_35
noncomputable def n_45_31 : e_Y := u_old (o_putf (e_f1 7 5) e_okI 34) n_45_34
theorem t_45_31 : e_Sn 45 31 (e_un n_45_31) := u_oldT (s_putf (ty0 := ey_7) (ok := e_okI) (C := er_7) (T := et_7) (N := 6) (ref := "Plateroomprinter$Path") (index := 28) (ci := 7) (k := 5) hq_45 ho_45 ⟨rfl, by decide, ei_7, (List.mem_of_getElem? (i := 299) (by decide +kernel)), .inl rfl⟩ eo_7 en_7 e_oksI (.inl rfl) (by decide +kernel) rfl : e_Sn 45 31 (o_putf (e_f1 7 5) e_okI 34)) t_45_34 (e_cg_putf (e_f1 7 5) e_okI)
noncomputable def n_45_28 : e_Y := u_tab (o_mmax 31)
theorem t_45_28 : e_Sn 45 28 (e_un n_45_28) := u_tabT (s_mmax (index := 37) hq_45 ho_45 (List.mem_of_getElem? (i := 761) (by decide +kernel)) (List.mem_of_getElem? (i := 229) (by decide +kernel)) (List.mem_of_getElem? (i := 142) (by decide +kernel)) (List.mem_of_getElem? (i := 230) (by decide +kernel)) (by decide +kernel) rfl : e_Sn 45 28 (o_mmax 31))
noncomputable def n_45_25 : e_Y := u_tab (o_mmin 28)
theorem t_45_25 : e_Sn 45 25 (e_un n_45_25) := u_tabT (s_mmin (index := 31) hq_45 ho_45 (List.mem_of_getElem? (i := 760) (by decide +kernel)) (List.mem_of_getElem? (i := 425) (by decide +kernel)) (List.mem_of_getElem? (i := 142) (by decide +kernel)) (List.mem_of_getElem? (i := 426) (by decide +kernel)) (by decide +kernel) rfl : e_Sn 45 25 (o_mmin 28))
noncomputable def n_45_23 : e_Y := u_push (.inl 2147483768) n_45_25
theorem t_45_23 : e_Sn 45 23 (e_un n_45_23) := u_pushT (s_bipush (n := (120)) hq_45 (by decide +kernel) rfl ⟨by decide +kernel, by decide +kernel⟩ : e_Sn 45 23 (o_push (.inl 2147483768) 25)) t_45_25
noncomputable def n_45_20 : e_Y := u_getf 7 5 (u_old (o_getf (e_f1 7 5) 23) n_45_23) n_45_23
theorem t_45_20 : e_Sn 45 20 (e_un n_45_20) := u_getfT (s_getf (C := er_7) (T := et_7) (N := 6) (ref := "Plateroomprinter$Path") (index := 28) (ci := 7) (k := 5) hq_45 ho_45 ⟨rfl, by decide, ei_7, (List.mem_of_getElem? (i := 299) (by decide +kernel)), .inl rfl⟩ (by decide +kernel) rfl : e_Sn 45 20 (o_getf (e_f1 7 5) 23)) t_45_23
noncomputable def n_45_19 : e_Y := u_ld f_okA f_l1 n_45_20
theorem t_45_19 : e_Sn 45 19 (e_un n_45_19) := u_ldAT f_l1_eq (s_aload (i := .aload_n 1) (len := 1) hq_45 (by decide +kernel) rfl (.inr ⟨1, rfl, rfl, rfl⟩) : e_Sn 45 19 (o_load e_okR 1 20)) t_45_20
noncomputable def n_45_18 : e_Y := u_push (.inl 2147483648) n_45_19
theorem t_45_18 : e_Sn 45 18 (e_un n_45_18) := u_pushT (s_iconst (n := (0)) hq_45 (by decide +kernel) rfl ⟨by decide +kernel, by decide +kernel⟩ : e_Sn 45 18 (o_push (.inl 2147483648) 19)) t_45_19
noncomputable def n_45_17 : e_Y := u_ld f_okA f_l0 n_45_18
theorem t_45_17 : e_Sn 45 17 (e_un n_45_17) := u_ldAT f_l0_eq (s_aload (i := .aload_n 0) (len := 1) hq_45 (by decide +kernel) rfl (.inr ⟨0, rfl, rfl, rfl⟩) : e_Sn 45 17 (o_load e_okR 0 18)) t_45_18
noncomputable def n_45_14 : e_Y := u_old (o_putf (e_f1 7 4) e_okI 17) n_45_17
theorem t_45_14 : e_Sn 45 14 (e_un n_45_14) := u_oldT (s_putf (ty0 := ey_7) (ok := e_okI) (C := er_7) (T := et_7) (N := 6) (ref := "Plateroomprinter$Path") (index := 24) (ci := 7) (k := 4) hq_45 ho_45 ⟨rfl, by decide, ei_7, (List.mem_of_getElem? (i := 294) (by decide +kernel)), .inl rfl⟩ eo_7 en_7 e_oksI (.inl rfl) (by decide +kernel) rfl : e_Sn 45 14 (o_putf (e_f1 7 4) e_okI 17)) t_45_17 (e_cg_putf (e_f1 7 4) e_okI)
noncomputable def n_45_11 : e_Y := u_tab (o_mmax 14)
theorem t_45_11 : e_Sn 45 11 (e_un n_45_11) := u_tabT (s_mmax (index := 37) hq_45 ho_45 (List.mem_of_getElem? (i := 761) (by decide +kernel)) (List.mem_of_getElem? (i := 229) (by decide +kernel)) (List.mem_of_getElem? (i := 142) (by decide +kernel)) (List.mem_of_getElem? (i := 230) (by decide +kernel)) (by decide +kernel) rfl : e_Sn 45 11 (o_mmax 14))
noncomputable def n_45_8 : e_Y := u_tab (o_mmin 11)
theorem t_45_8 : e_Sn 45 8 (e_un n_45_8) := u_tabT (s_mmin (index := 31) hq_45 ho_45 (List.mem_of_getElem? (i := 760) (by decide +kernel)) (List.mem_of_getElem? (i := 425) (by decide +kernel)) (List.mem_of_getElem? (i := 142) (by decide +kernel)) (List.mem_of_getElem? (i := 426) (by decide +kernel)) (by decide +kernel) rfl : e_Sn 45 8 (o_mmin 11))
noncomputable def n_45_6 : e_Y := u_push (.inl 2147483768) n_45_8
theorem t_45_6 : e_Sn 45 6 (e_un n_45_6) := u_pushT (s_bipush (n := (120)) hq_45 (by decide +kernel) rfl ⟨by decide +kernel, by decide +kernel⟩ : e_Sn 45 6 (o_push (.inl 2147483768) 8)) t_45_8
noncomputable def n_45_3 : e_Y := u_getf 7 4 (u_old (o_getf (e_f1 7 4) 6) n_45_6) n_45_6
theorem t_45_3 : e_Sn 45 3 (e_un n_45_3) := u_getfT (s_getf (C := er_7) (T := et_7) (N := 6) (ref := "Plateroomprinter$Path") (index := 24) (ci := 7) (k := 4) hq_45 ho_45 ⟨rfl, by decide, ei_7, (List.mem_of_getElem? (i := 294) (by decide +kernel)), .inl rfl⟩ (by decide +kernel) rfl : e_Sn 45 3 (o_getf (e_f1 7 4) 6)) t_45_6
noncomputable def n_45_2 : e_Y := u_ld f_okA f_l1 n_45_3
theorem t_45_2 : e_Sn 45 2 (e_un n_45_2) := u_ldAT f_l1_eq (s_aload (i := .aload_n 1) (len := 1) hq_45 (by decide +kernel) rfl (.inr ⟨1, rfl, rfl, rfl⟩) : e_Sn 45 2 (o_load e_okR 1 3)) t_45_3
noncomputable def n_45_1 : e_Y := u_push (.inl 2147483648) n_45_2
theorem t_45_1 : e_Sn 45 1 (e_un n_45_1) := u_pushT (s_iconst (n := (0)) hq_45 (by decide +kernel) rfl ⟨by decide +kernel, by decide +kernel⟩ : e_Sn 45 1 (o_push (.inl 2147483648) 2)) t_45_2
noncomputable def n_45_0 : e_Y := u_ld f_okA f_l0 n_45_1
theorem t_45_0 : e_Sn 45 0 (e_un n_45_0) := u_ldAT f_l0_eq (s_aload (i := .aload_n 0) (len := 1) hq_45 (by decide +kernel) rfl (.inr ⟨0, rfl, rfl, rfl⟩) : e_Sn 45 0 (o_load e_okR 0 1)) t_45_1
noncomputable def e_tb_45 : e_X := (e_br 31 (e_br 14 (e_br 11 (e_lf 0 (e_un n_45_0)) (e_lf 11 (e_un n_45_11))) (e_br 28 (e_lf 14 (e_un n_45_14)) (e_lf 28 (e_un n_45_28)))) (e_br 68 (e_br 51 (e_lf 31 (e_un n_45_31)) (e_lf 51 (e_un n_45_51))) (e_br 85 (e_lf 68 (e_un n_45_68)) (e_br 102 (e_lf 85 (e_un n_45_85)) (e_lf 102 (e_un n_45_102))))))
theorem e_tk_45 : e_Tb 45 e_tb_45 := (e_brT (e_brT (e_brT (e_lfT t_45_0) (e_lfT t_45_11)) (e_brT (e_lfT t_45_14) (e_lfT t_45_28))) (e_brT (e_brT (e_lfT t_45_31) (e_lfT t_45_51)) (e_brT (e_lfT t_45_68) (e_brT (e_lfT t_45_85) (e_lfT t_45_102)))))
theorem hq_38 : (e_ml[38]?).map (·.2.1) = some prog_6_method_3_code := rfl
theorem ho_38 : (e_ml[38]?).map (·.1.cls) = some "Plateroomprinter$Matrix" := rfl
theorem hr_38 : (e_ml[38]?).map (·.2.2.2) = some none := rfl
noncomputable def n_38_38 : e_Y := u_tab (o_retv)
theorem t_38_38 : e_Sn 38 38 (e_un n_38_38) := u_tabT (s_vret hq_38 hr_38 (by decide +kernel) : e_Sn 38 38 (o_retv))
noncomputable def n_38_35 : e_Y := (u_at 2)
theorem t_38_35 : e_Sn 38 35 (e_un n_38_35) := u_gotoT (s_goto (off := (-33)) hq_38 (by decide +kernel) rfl : e_Sn 38 35 (o_goto 2)) u_atT
noncomputable def n_38_32 : e_Y := u_inc f_l2 f_s2 1 n_38_35
theorem t_38_32 : e_Sn 38 32 (e_un n_38_32) := u_incT f_l2_eq (fun _ _ _ => f_s2_eq) (s_iinc (zz := (1)) hq_38 (by decide +kernel) rfl (by decide +kernel) ⟨by decide, by decide⟩ : e_Sn 38 32 (o_iinc 2 1 35)) t_38_35
noncomputable def n_38_31 : e_Y := u_old (o_ast 2 e_okL 32) n_38_32
theorem t_38_31 : e_Sn 38 31 (e_un n_38_31) := u_oldT (s_last hq_38 (by decide +kernel) rfl : e_Sn 38 31 (o_ast 2 e_okL 32)) t_38_32 (e_cg_ast 2 e_okL)
noncomputable def n_38_30 : e_Y := u_ald 2 (u_old (o_aldO 2 31) n_38_31) n_38_31
theorem t_38_30 : e_Sn 38 30 (e_un n_38_30) := u_aldOT (s_lald hq_38 (by decide +kernel) rfl : e_Sn 38 30 (o_aldO 2 31)) t_38_31
noncomputable def n_38_29 : e_Y := u_ld f_okI f_l2 n_38_30
theorem t_38_29 : e_Sn 38 29 (e_un n_38_29) := u_ldIT f_l2_eq (s_iload (i := .iload_n 2) (len := 1) hq_38 (by decide +kernel) rfl (.inr ⟨2, rfl, rfl, rfl⟩) : e_Sn 38 29 (o_load e_okI 2 30)) t_38_30
noncomputable def n_38_26 : e_Y := u_getf 5 1 (u_old (o_getf (e_f1 5 1) 29) n_38_29) n_38_29
theorem t_38_26 : e_Sn 38 26 (e_un n_38_26) := u_getfT (s_getf (C := er_5) (T := et_5) (N := 5) (ref := "Plateroomprinter$Matrix") (index := 15) (ci := 5) (k := 1) hq_38 ho_38 ⟨rfl, by decide, ei_5, (List.mem_of_getElem? (i := 263) (by decide +kernel)), .inl rfl⟩ (by decide +kernel) rfl : e_Sn 38 26 (o_getf (e_f1 5 1) 29)) t_38_29
noncomputable def n_38_25 : e_Y := u_ld f_okA f_l1 n_38_26
theorem t_38_25 : e_Sn 38 25 (e_un n_38_25) := u_ldAT f_l1_eq (s_aload (i := .aload_n 1) (len := 1) hq_38 (by decide +kernel) rfl (.inr ⟨1, rfl, rfl, rfl⟩) : e_Sn 38 25 (o_load e_okR 1 26)) t_38_26
noncomputable def n_38_24 : e_Y := u_ld f_okI f_l2 n_38_25
theorem t_38_24 : e_Sn 38 24 (e_un n_38_24) := u_ldIT f_l2_eq (s_iload (i := .iload_n 2) (len := 1) hq_38 (by decide +kernel) rfl (.inr ⟨2, rfl, rfl, rfl⟩) : e_Sn 38 24 (o_load e_okI 2 25)) t_38_25
noncomputable def n_38_21 : e_Y := u_getf 5 1 (u_old (o_getf (e_f1 5 1) 24) n_38_24) n_38_24
theorem t_38_21 : e_Sn 38 21 (e_un n_38_21) := u_getfT (s_getf (C := er_5) (T := et_5) (N := 5) (ref := "Plateroomprinter$Matrix") (index := 15) (ci := 5) (k := 1) hq_38 ho_38 ⟨rfl, by decide, ei_5, (List.mem_of_getElem? (i := 263) (by decide +kernel)), .inl rfl⟩ (by decide +kernel) rfl : e_Sn 38 21 (o_getf (e_f1 5 1) 24)) t_38_24
noncomputable def n_38_20 : e_Y := u_ld f_okA f_l0 n_38_21
theorem t_38_20 : e_Sn 38 20 (e_un n_38_20) := u_ldAT f_l0_eq (s_aload (i := .aload_n 0) (len := 1) hq_38 (by decide +kernel) rfl (.inr ⟨0, rfl, rfl, rfl⟩) : e_Sn 38 20 (o_load e_okR 0 21)) t_38_21
noncomputable def n_38_19 : e_Y := u_old (o_ast 2 e_okL 20) n_38_20
theorem t_38_19 : e_Sn 38 19 (e_un n_38_19) := u_oldT (s_last hq_38 (by decide +kernel) rfl : e_Sn 38 19 (o_ast 2 e_okL 20)) t_38_20 (e_cg_ast 2 e_okL)
noncomputable def n_38_18 : e_Y := u_ald 2 (u_old (o_aldO 2 19) n_38_19) n_38_19
theorem t_38_18 : e_Sn 38 18 (e_un n_38_18) := u_aldOT (s_lald hq_38 (by decide +kernel) rfl : e_Sn 38 18 (o_aldO 2 19)) t_38_19
noncomputable def n_38_17 : e_Y := u_ld f_okI f_l2 n_38_18
theorem t_38_17 : e_Sn 38 17 (e_un n_38_17) := u_ldIT f_l2_eq (s_iload (i := .iload_n 2) (len := 1) hq_38 (by decide +kernel) rfl (.inr ⟨2, rfl, rfl, rfl⟩) : e_Sn 38 17 (o_load e_okI 2 18)) t_38_18
noncomputable def n_38_14 : e_Y := u_getf 5 0 (u_old (o_getf (e_f1 5 0) 17) n_38_17) n_38_17
theorem t_38_14 : e_Sn 38 14 (e_un n_38_14) := u_getfT (s_getf (C := er_5) (T := et_5) (N := 5) (ref := "Plateroomprinter$Matrix") (index := 9) (ci := 5) (k := 0) hq_38 ho_38 ⟨rfl, by decide, ei_5, (List.mem_of_getElem? (i := 261) (by decide +kernel)), .inl rfl⟩ (by decide +kernel) rfl : e_Sn 38 14 (o_getf (e_f1 5 0) 17)) t_38_17
noncomputable def n_38_13 : e_Y := u_ld f_okA f_l1 n_38_14
theorem t_38_13 : e_Sn 38 13 (e_un n_38_13) := u_ldAT f_l1_eq (s_aload (i := .aload_n 1) (len := 1) hq_38 (by decide +kernel) rfl (.inr ⟨1, rfl, rfl, rfl⟩) : e_Sn 38 13 (o_load e_okR 1 14)) t_38_14
noncomputable def n_38_12 : e_Y := u_ld f_okI f_l2 n_38_13
theorem t_38_12 : e_Sn 38 12 (e_un n_38_12) := u_ldIT f_l2_eq (s_iload (i := .iload_n 2) (len := 1) hq_38 (by decide +kernel) rfl (.inr ⟨2, rfl, rfl, rfl⟩) : e_Sn 38 12 (o_load e_okI 2 13)) t_38_13
noncomputable def n_38_9 : e_Y := u_getf 5 0 (u_old (o_getf (e_f1 5 0) 12) n_38_12) n_38_12
theorem t_38_9 : e_Sn 38 9 (e_un n_38_9) := u_getfT (s_getf (C := er_5) (T := et_5) (N := 5) (ref := "Plateroomprinter$Matrix") (index := 9) (ci := 5) (k := 0) hq_38 ho_38 ⟨rfl, by decide, ei_5, (List.mem_of_getElem? (i := 261) (by decide +kernel)), .inl rfl⟩ (by decide +kernel) rfl : e_Sn 38 9 (o_getf (e_f1 5 0) 12)) t_38_12
noncomputable def n_38_8 : e_Y := u_ld f_okA f_l0 n_38_9
theorem t_38_8 : e_Sn 38 8 (e_un n_38_8) := u_ldAT f_l0_eq (s_aload (i := .aload_n 0) (len := 1) hq_38 (by decide +kernel) rfl (.inr ⟨0, rfl, rfl, rfl⟩) : e_Sn 38 8 (o_load e_okR 0 9)) t_38_9
noncomputable def n_38_5 : e_Y := u_jmp y_ge (u_old2 (o_clt 8 38) 8 n_38_8 n_38_38) n_38_8 n_38_38
theorem t_38_5 : e_Sn 38 5 (e_un n_38_5) := u_cltT rfl (s_cge (off := (33)) hq_38 (by decide +kernel) rfl rfl : e_Sn 38 5 (o_clt 8 38)) t_38_8 t_38_38
noncomputable def n_38_3 : e_Y := u_push (.inl 2147483654) n_38_5
theorem t_38_3 : e_Sn 38 3 (e_un n_38_3) := u_pushT (s_bipush (n := (6)) hq_38 (by decide +kernel) rfl ⟨by decide +kernel, by decide +kernel⟩ : e_Sn 38 3 (o_push (.inl 2147483654) 5)) t_38_5
noncomputable def n_38_2 : e_Y := u_ld f_okI f_l2 n_38_3
theorem t_38_2 : e_Sn 38 2 (e_un n_38_2) := u_ldIT f_l2_eq (s_iload (i := .iload_n 2) (len := 1) hq_38 (by decide +kernel) rfl (.inr ⟨2, rfl, rfl, rfl⟩) : e_Sn 38 2 (o_load e_okI 2 3)) t_38_3
noncomputable def n_38_1 : e_Y := u_st f_okI f_s2 n_38_2
theorem t_38_1 : e_Sn 38 1 (e_un n_38_1) := u_stIT (fun _ _ _ => f_s2_eq) (s_istore (i := .istore_n 2) (len := 1) hq_38 (by decide +kernel) rfl (.inr ⟨2, rfl, rfl, rfl⟩) : e_Sn 38 1 (o_store e_okI 2 2)) t_38_2
noncomputable def n_38_0 : e_Y := u_push (.inl 2147483648) n_38_1
theorem t_38_0 : e_Sn 38 0 (e_un n_38_0) := u_pushT (s_iconst (n := (0)) hq_38 (by decide +kernel) rfl ⟨by decide +kernel, by decide +kernel⟩ : e_Sn 38 0 (o_push (.inl 2147483648) 1)) t_38_1
noncomputable def e_tb_38 : e_X := (e_br 2 (e_lf 0 (e_un n_38_0)) (e_lf 2 (e_un n_38_2)))
theorem e_tk_38 : e_Tb 38 e_tb_38 := (e_brT (e_lfT t_38_0) (e_lfT t_38_2))
theorem hq_52 : (e_ml[52]?).map (·.2.1) = some prog_11_method_3_code := rfl
theorem ho_52 : (e_ml[52]?).map (·.1.cls) = some "Plateroomprinter$State" := rfl
theorem hr_52 : (e_ml[52]?).map (·.2.2.2) = some none := rfl
noncomputable def n_52_129 : e_Y := u_tab (o_retv)
theorem t_52_129 : e_Sn 52 129 (e_un n_52_129) := u_tabT (s_vret hq_52 hr_52 (by decide +kernel) : e_Sn 52 129 (o_retv))
noncomputable def n_52_126 : e_Y := u_old (o_putf (e_f1 10 10) e_okI 129) n_52_129
theorem t_52_126 : e_Sn 52 126 (e_un n_52_126) := u_oldT (s_putf (ty0 := ey_10) (ok := e_okI) (C := er_10) (T := et_10) (N := 11) (ref := "Plateroomprinter$State") (index := 51) (ci := 10) (k := 10) hq_52 ho_52 ⟨rfl, by decide, ei_10, (List.mem_of_getElem? (i := 346) (by decide +kernel)), .inl rfl⟩ eo_10 en_10 e_oksI (.inl rfl) (by decide +kernel) rfl : e_Sn 52 126 (o_putf (e_f1 10 10) e_okI 129)) t_52_129 (e_cg_putf (e_f1 10 10) e_okI)
noncomputable def n_52_123 : e_Y := u_getf 10 10 (u_old (o_getf (e_f1 10 10) 126) n_52_126) n_52_126
theorem t_52_123 : e_Sn 52 123 (e_un n_52_123) := u_getfT (s_getf (C := er_10) (T := et_10) (N := 11) (ref := "Plateroomprinter$State") (index := 51) (ci := 10) (k := 10) hq_52 ho_52 ⟨rfl, by decide, ei_10, (List.mem_of_getElem? (i := 346) (by decide +kernel)), .inl rfl⟩ (by decide +kernel) rfl : e_Sn 52 123 (o_getf (e_f1 10 10) 126)) t_52_126
noncomputable def n_52_122 : e_Y := u_ld f_okA f_l1 n_52_123
theorem t_52_122 : e_Sn 52 122 (e_un n_52_122) := u_ldAT f_l1_eq (s_aload (i := .aload_n 1) (len := 1) hq_52 (by decide +kernel) rfl (.inr ⟨1, rfl, rfl, rfl⟩) : e_Sn 52 122 (o_load e_okR 1 123)) t_52_123
noncomputable def n_52_121 : e_Y := u_ld f_okA f_l0 n_52_122
theorem t_52_121 : e_Sn 52 121 (e_un n_52_121) := u_ldAT f_l0_eq (s_aload (i := .aload_n 0) (len := 1) hq_52 (by decide +kernel) rfl (.inr ⟨0, rfl, rfl, rfl⟩) : e_Sn 52 121 (o_load e_okR 0 122)) t_52_122
noncomputable def n_52_118 : e_Y := u_old (o_putf (e_f1 10 9) e_okI 121) n_52_121
theorem t_52_118 : e_Sn 52 118 (e_un n_52_118) := u_oldT (s_putf (ty0 := ey_10) (ok := e_okI) (C := er_10) (T := et_10) (N := 11) (ref := "Plateroomprinter$State") (index := 48) (ci := 10) (k := 9) hq_52 ho_52 ⟨rfl, by decide, ei_10, (List.mem_of_getElem? (i := 343) (by decide +kernel)), .inl rfl⟩ eo_10 en_10 e_oksI (.inl rfl) (by decide +kernel) rfl : e_Sn 52 118 (o_putf (e_f1 10 9) e_okI 121)) t_52_121 (e_cg_putf (e_f1 10 9) e_okI)
noncomputable def n_52_115 : e_Y := u_getf 10 9 (u_old (o_getf (e_f1 10 9) 118) n_52_118) n_52_118
theorem t_52_115 : e_Sn 52 115 (e_un n_52_115) := u_getfT (s_getf (C := er_10) (T := et_10) (N := 11) (ref := "Plateroomprinter$State") (index := 48) (ci := 10) (k := 9) hq_52 ho_52 ⟨rfl, by decide, ei_10, (List.mem_of_getElem? (i := 343) (by decide +kernel)), .inl rfl⟩ (by decide +kernel) rfl : e_Sn 52 115 (o_getf (e_f1 10 9) 118)) t_52_118
noncomputable def n_52_114 : e_Y := u_ld f_okA f_l1 n_52_115
theorem t_52_114 : e_Sn 52 114 (e_un n_52_114) := u_ldAT f_l1_eq (s_aload (i := .aload_n 1) (len := 1) hq_52 (by decide +kernel) rfl (.inr ⟨1, rfl, rfl, rfl⟩) : e_Sn 52 114 (o_load e_okR 1 115)) t_52_115
noncomputable def n_52_113 : e_Y := u_ld f_okA f_l0 n_52_114
theorem t_52_113 : e_Sn 52 113 (e_un n_52_113) := u_ldAT f_l0_eq (s_aload (i := .aload_n 0) (len := 1) hq_52 (by decide +kernel) rfl (.inr ⟨0, rfl, rfl, rfl⟩) : e_Sn 52 113 (o_load e_okR 0 114)) t_52_114
noncomputable def n_52_110 : e_Y := u_old (o_putf (e_f1 10 8) e_okI 113) n_52_113
theorem t_52_110 : e_Sn 52 110 (e_un n_52_110) := u_oldT (s_putf (ty0 := ey_10) (ok := e_okI) (C := er_10) (T := et_10) (N := 11) (ref := "Plateroomprinter$State") (index := 45) (ci := 10) (k := 8) hq_52 ho_52 ⟨rfl, by decide, ei_10, (List.mem_of_getElem? (i := 340) (by decide +kernel)), .inl rfl⟩ eo_10 en_10 e_oksI (.inl rfl) (by decide +kernel) rfl : e_Sn 52 110 (o_putf (e_f1 10 8) e_okI 113)) t_52_113 (e_cg_putf (e_f1 10 8) e_okI)
noncomputable def n_52_107 : e_Y := u_getf 10 8 (u_old (o_getf (e_f1 10 8) 110) n_52_110) n_52_110
theorem t_52_107 : e_Sn 52 107 (e_un n_52_107) := u_getfT (s_getf (C := er_10) (T := et_10) (N := 11) (ref := "Plateroomprinter$State") (index := 45) (ci := 10) (k := 8) hq_52 ho_52 ⟨rfl, by decide, ei_10, (List.mem_of_getElem? (i := 340) (by decide +kernel)), .inl rfl⟩ (by decide +kernel) rfl : e_Sn 52 107 (o_getf (e_f1 10 8) 110)) t_52_110
noncomputable def n_52_106 : e_Y := u_ld f_okA f_l1 n_52_107
theorem t_52_106 : e_Sn 52 106 (e_un n_52_106) := u_ldAT f_l1_eq (s_aload (i := .aload_n 1) (len := 1) hq_52 (by decide +kernel) rfl (.inr ⟨1, rfl, rfl, rfl⟩) : e_Sn 52 106 (o_load e_okR 1 107)) t_52_107
noncomputable def n_52_105 : e_Y := u_ld f_okA f_l0 n_52_106
theorem t_52_105 : e_Sn 52 105 (e_un n_52_105) := u_ldAT f_l0_eq (s_aload (i := .aload_n 0) (len := 1) hq_52 (by decide +kernel) rfl (.inr ⟨0, rfl, rfl, rfl⟩) : e_Sn 52 105 (o_load e_okR 0 106)) t_52_106
noncomputable def n_52_102 : e_Y := u_old (o_putf (e_f1 10 7) e_okI 105) n_52_105
theorem t_52_102 : e_Sn 52 102 (e_un n_52_102) := u_oldT (s_putf (ty0 := ey_10) (ok := e_okI) (C := er_10) (T := et_10) (N := 11) (ref := "Plateroomprinter$State") (index := 41) (ci := 10) (k := 7) hq_52 ho_52 ⟨rfl, by decide, ei_10, (List.mem_of_getElem? (i := 337) (by decide +kernel)), .inl rfl⟩ eo_10 en_10 e_oksI (.inl rfl) (by decide +kernel) rfl : e_Sn 52 102 (o_putf (e_f1 10 7) e_okI 105)) t_52_105 (e_cg_putf (e_f1 10 7) e_okI)
noncomputable def n_52_99 : e_Y := u_getf 10 7 (u_old (o_getf (e_f1 10 7) 102) n_52_102) n_52_102
theorem t_52_99 : e_Sn 52 99 (e_un n_52_99) := u_getfT (s_getf (C := er_10) (T := et_10) (N := 11) (ref := "Plateroomprinter$State") (index := 41) (ci := 10) (k := 7) hq_52 ho_52 ⟨rfl, by decide, ei_10, (List.mem_of_getElem? (i := 337) (by decide +kernel)), .inl rfl⟩ (by decide +kernel) rfl : e_Sn 52 99 (o_getf (e_f1 10 7) 102)) t_52_102
noncomputable def n_52_98 : e_Y := u_ld f_okA f_l1 n_52_99
theorem t_52_98 : e_Sn 52 98 (e_un n_52_98) := u_ldAT f_l1_eq (s_aload (i := .aload_n 1) (len := 1) hq_52 (by decide +kernel) rfl (.inr ⟨1, rfl, rfl, rfl⟩) : e_Sn 52 98 (o_load e_okR 1 99)) t_52_99
noncomputable def n_52_97 : e_Y := u_ld f_okA f_l0 n_52_98
theorem t_52_97 : e_Sn 52 97 (e_un n_52_97) := u_ldAT f_l0_eq (s_aload (i := .aload_n 0) (len := 1) hq_52 (by decide +kernel) rfl (.inr ⟨0, rfl, rfl, rfl⟩) : e_Sn 52 97 (o_load e_okR 0 98)) t_52_98
noncomputable def n_52_94 : e_Y := u_old (o_putf (e_f1 10 6) e_okI 97) n_52_97
theorem t_52_94 : e_Sn 52 94 (e_un n_52_94) := u_oldT (s_putf (ty0 := ey_10) (ok := e_okI) (C := er_10) (T := et_10) (N := 11) (ref := "Plateroomprinter$State") (index := 68) (ci := 10) (k := 6) hq_52 ho_52 ⟨rfl, by decide, ei_10, (List.mem_of_getElem? (i := 334) (by decide +kernel)), .inl rfl⟩ eo_10 en_10 e_oksI (.inl rfl) (by decide +kernel) rfl : e_Sn 52 94 (o_putf (e_f1 10 6) e_okI 97)) t_52_97 (e_cg_putf (e_f1 10 6) e_okI)
noncomputable def n_52_91 : e_Y := u_getf 10 6 (u_old (o_getf (e_f1 10 6) 94) n_52_94) n_52_94
theorem t_52_91 : e_Sn 52 91 (e_un n_52_91) := u_getfT (s_getf (C := er_10) (T := et_10) (N := 11) (ref := "Plateroomprinter$State") (index := 68) (ci := 10) (k := 6) hq_52 ho_52 ⟨rfl, by decide, ei_10, (List.mem_of_getElem? (i := 334) (by decide +kernel)), .inl rfl⟩ (by decide +kernel) rfl : e_Sn 52 91 (o_getf (e_f1 10 6) 94)) t_52_94
noncomputable def n_52_90 : e_Y := u_ld f_okA f_l1 n_52_91
theorem t_52_90 : e_Sn 52 90 (e_un n_52_90) := u_ldAT f_l1_eq (s_aload (i := .aload_n 1) (len := 1) hq_52 (by decide +kernel) rfl (.inr ⟨1, rfl, rfl, rfl⟩) : e_Sn 52 90 (o_load e_okR 1 91)) t_52_91
noncomputable def n_52_89 : e_Y := u_ld f_okA f_l0 n_52_90
theorem t_52_89 : e_Sn 52 89 (e_un n_52_89) := u_ldAT f_l0_eq (s_aload (i := .aload_n 0) (len := 1) hq_52 (by decide +kernel) rfl (.inr ⟨0, rfl, rfl, rfl⟩) : e_Sn 52 89 (o_load e_okR 0 90)) t_52_90
noncomputable def n_52_86 : e_Y := u_old (o_putf (e_f1 10 5) e_okI 89) n_52_89
theorem t_52_86 : e_Sn 52 86 (e_un n_52_86) := u_oldT (s_putf (ty0 := ey_10) (ok := e_okI) (C := er_10) (T := et_10) (N := 11) (ref := "Plateroomprinter$State") (index := 65) (ci := 10) (k := 5) hq_52 ho_52 ⟨rfl, by decide, ei_10, (List.mem_of_getElem? (i := 331) (by decide +kernel)), .inl rfl⟩ eo_10 en_10 e_oksI (.inl rfl) (by decide +kernel) rfl : e_Sn 52 86 (o_putf (e_f1 10 5) e_okI 89)) t_52_89 (e_cg_putf (e_f1 10 5) e_okI)
noncomputable def n_52_83 : e_Y := u_getf 10 5 (u_old (o_getf (e_f1 10 5) 86) n_52_86) n_52_86
theorem t_52_83 : e_Sn 52 83 (e_un n_52_83) := u_getfT (s_getf (C := er_10) (T := et_10) (N := 11) (ref := "Plateroomprinter$State") (index := 65) (ci := 10) (k := 5) hq_52 ho_52 ⟨rfl, by decide, ei_10, (List.mem_of_getElem? (i := 331) (by decide +kernel)), .inl rfl⟩ (by decide +kernel) rfl : e_Sn 52 83 (o_getf (e_f1 10 5) 86)) t_52_86
noncomputable def n_52_82 : e_Y := u_ld f_okA f_l1 n_52_83
theorem t_52_82 : e_Sn 52 82 (e_un n_52_82) := u_ldAT f_l1_eq (s_aload (i := .aload_n 1) (len := 1) hq_52 (by decide +kernel) rfl (.inr ⟨1, rfl, rfl, rfl⟩) : e_Sn 52 82 (o_load e_okR 1 83)) t_52_83
noncomputable def n_52_81 : e_Y := u_ld f_okA f_l0 n_52_82
theorem t_52_81 : e_Sn 52 81 (e_un n_52_81) := u_ldAT f_l0_eq (s_aload (i := .aload_n 0) (len := 1) hq_52 (by decide +kernel) rfl (.inr ⟨0, rfl, rfl, rfl⟩) : e_Sn 52 81 (o_load e_okR 0 82)) t_52_82
noncomputable def n_52_78 : e_Y := u_old (o_putf (e_f1 10 4) e_okZ 81) n_52_81
theorem t_52_78 : e_Sn 52 78 (e_un n_52_78) := u_oldT (s_putf (ty0 := ey_10) (ok := e_okZ) (C := er_10) (T := et_10) (N := 11) (ref := "Plateroomprinter$State") (index := 61) (ci := 10) (k := 4) hq_52 ho_52 ⟨rfl, by decide, ei_10, (List.mem_of_getElem? (i := 328) (by decide +kernel)), .inl rfl⟩ eo_10 en_10 e_oksZ (.inl rfl) (by decide +kernel) rfl : e_Sn 52 78 (o_putf (e_f1 10 4) e_okZ 81)) t_52_81 (e_cg_putf (e_f1 10 4) e_okZ)
noncomputable def n_52_75 : e_Y := u_getf 10 4 (u_old (o_getf (e_f1 10 4) 78) n_52_78) n_52_78
theorem t_52_75 : e_Sn 52 75 (e_un n_52_75) := u_getfT (s_getf (C := er_10) (T := et_10) (N := 11) (ref := "Plateroomprinter$State") (index := 61) (ci := 10) (k := 4) hq_52 ho_52 ⟨rfl, by decide, ei_10, (List.mem_of_getElem? (i := 328) (by decide +kernel)), .inl rfl⟩ (by decide +kernel) rfl : e_Sn 52 75 (o_getf (e_f1 10 4) 78)) t_52_78
noncomputable def n_52_74 : e_Y := u_ld f_okA f_l1 n_52_75
theorem t_52_74 : e_Sn 52 74 (e_un n_52_74) := u_ldAT f_l1_eq (s_aload (i := .aload_n 1) (len := 1) hq_52 (by decide +kernel) rfl (.inr ⟨1, rfl, rfl, rfl⟩) : e_Sn 52 74 (o_load e_okR 1 75)) t_52_75
noncomputable def n_52_73 : e_Y := u_ld f_okA f_l0 n_52_74
theorem t_52_73 : e_Sn 52 73 (e_un n_52_73) := u_ldAT f_l0_eq (s_aload (i := .aload_n 0) (len := 1) hq_52 (by decide +kernel) rfl (.inr ⟨0, rfl, rfl, rfl⟩) : e_Sn 52 73 (o_load e_okR 0 74)) t_52_74
noncomputable def n_52_70 : e_Y := (u_at 50)
theorem t_52_70 : e_Sn 52 70 (e_un n_52_70) := u_gotoT (s_goto (off := (-20)) hq_52 (by decide +kernel) rfl : e_Sn 52 70 (o_goto 50)) u_atT
noncomputable def n_52_67 : e_Y := u_inc f_l2 f_s2 1 n_52_70
theorem t_52_67 : e_Sn 52 67 (e_un n_52_67) := u_incT f_l2_eq (fun _ _ _ => f_s2_eq) (s_iinc (zz := (1)) hq_52 (by decide +kernel) rfl (by decide +kernel) ⟨by decide, by decide⟩ : e_Sn 52 67 (o_iinc 2 1 70)) t_52_70
noncomputable def n_52_66 : e_Y := u_old (o_ast 0 e_okI 67) n_52_67
theorem t_52_66 : e_Sn 52 66 (e_un n_52_66) := u_oldT (s_iast hq_52 (by decide +kernel) rfl : e_Sn 52 66 (o_ast 0 e_okI 67)) t_52_67 (e_cg_ast 0 e_okI)
noncomputable def n_52_65 : e_Y := u_ald 0 (u_old (o_ald e_fcs 66) n_52_66) n_52_66
theorem t_52_65 : e_Sn 52 65 (e_un n_52_65) := u_aldT (s_iald hq_52 (by decide +kernel) rfl : e_Sn 52 65 (o_ald e_fcs 66)) t_52_66
noncomputable def n_52_64 : e_Y := u_ld f_okI f_l2 n_52_65
theorem t_52_64 : e_Sn 52 64 (e_un n_52_64) := u_ldIT f_l2_eq (s_iload (i := .iload_n 2) (len := 1) hq_52 (by decide +kernel) rfl (.inr ⟨2, rfl, rfl, rfl⟩) : e_Sn 52 64 (o_load e_okI 2 65)) t_52_65
noncomputable def n_52_61 : e_Y := u_getf 10 3 (u_old (o_getf (e_f1 10 3) 64) n_52_64) n_52_64
theorem t_52_61 : e_Sn 52 61 (e_un n_52_61) := u_getfT (s_getf (C := er_10) (T := et_10) (N := 11) (ref := "Plateroomprinter$State") (index := 29) (ci := 10) (k := 3) hq_52 ho_52 ⟨rfl, by decide, ei_10, (List.mem_of_getElem? (i := 325) (by decide +kernel)), .inl rfl⟩ (by decide +kernel) rfl : e_Sn 52 61 (o_getf (e_f1 10 3) 64)) t_52_64
noncomputable def n_52_60 : e_Y := u_ld f_okA f_l1 n_52_61
theorem t_52_60 : e_Sn 52 60 (e_un n_52_60) := u_ldAT f_l1_eq (s_aload (i := .aload_n 1) (len := 1) hq_52 (by decide +kernel) rfl (.inr ⟨1, rfl, rfl, rfl⟩) : e_Sn 52 60 (o_load e_okR 1 61)) t_52_61
noncomputable def n_52_59 : e_Y := u_ld f_okI f_l2 n_52_60
theorem t_52_59 : e_Sn 52 59 (e_un n_52_59) := u_ldIT f_l2_eq (s_iload (i := .iload_n 2) (len := 1) hq_52 (by decide +kernel) rfl (.inr ⟨2, rfl, rfl, rfl⟩) : e_Sn 52 59 (o_load e_okI 2 60)) t_52_60
noncomputable def n_52_56 : e_Y := u_getf 10 3 (u_old (o_getf (e_f1 10 3) 59) n_52_59) n_52_59
theorem t_52_56 : e_Sn 52 56 (e_un n_52_56) := u_getfT (s_getf (C := er_10) (T := et_10) (N := 11) (ref := "Plateroomprinter$State") (index := 29) (ci := 10) (k := 3) hq_52 ho_52 ⟨rfl, by decide, ei_10, (List.mem_of_getElem? (i := 325) (by decide +kernel)), .inl rfl⟩ (by decide +kernel) rfl : e_Sn 52 56 (o_getf (e_f1 10 3) 59)) t_52_59
noncomputable def n_52_55 : e_Y := u_ld f_okA f_l0 n_52_56
theorem t_52_55 : e_Sn 52 55 (e_un n_52_55) := u_ldAT f_l0_eq (s_aload (i := .aload_n 0) (len := 1) hq_52 (by decide +kernel) rfl (.inr ⟨0, rfl, rfl, rfl⟩) : e_Sn 52 55 (o_load e_okR 0 56)) t_52_56
noncomputable def n_52_52 : e_Y := u_jmp y_ge (u_old2 (o_clt 55 73) 55 n_52_55 n_52_73) n_52_55 n_52_73
theorem t_52_52 : e_Sn 52 52 (e_un n_52_52) := u_cltT rfl (s_cge (off := (21)) hq_52 (by decide +kernel) rfl rfl : e_Sn 52 52 (o_clt 55 73)) t_52_55 t_52_73
noncomputable def n_52_51 : e_Y := u_push (.inl 2147483652) n_52_52
theorem t_52_51 : e_Sn 52 51 (e_un n_52_51) := u_pushT (s_iconst (n := (4)) hq_52 (by decide +kernel) rfl ⟨by decide +kernel, by decide +kernel⟩ : e_Sn 52 51 (o_push (.inl 2147483652) 52)) t_52_52
noncomputable def n_52_50 : e_Y := u_ld f_okI f_l2 n_52_51
theorem t_52_50 : e_Sn 52 50 (e_un n_52_50) := u_ldIT f_l2_eq (s_iload (i := .iload_n 2) (len := 1) hq_52 (by decide +kernel) rfl (.inr ⟨2, rfl, rfl, rfl⟩) : e_Sn 52 50 (o_load e_okI 2 51)) t_52_51
noncomputable def n_52_49 : e_Y := u_st f_okI f_s2 n_52_50
theorem t_52_49 : e_Sn 52 49 (e_un n_52_49) := u_stIT (fun _ _ _ => f_s2_eq) (s_istore (i := .istore_n 2) (len := 1) hq_52 (by decide +kernel) rfl (.inr ⟨2, rfl, rfl, rfl⟩) : e_Sn 52 49 (o_store e_okI 2 50)) t_52_50
noncomputable def n_52_48 : e_Y := u_push (.inl 2147483648) n_52_49
theorem t_52_48 : e_Sn 52 48 (e_un n_52_48) := u_pushT (s_iconst (n := (0)) hq_52 (by decide +kernel) rfl ⟨by decide +kernel, by decide +kernel⟩ : e_Sn 52 48 (o_push (.inl 2147483648) 49)) t_52_49
noncomputable def n_52_45 : e_Y := (u_at 24)
theorem t_52_45 : e_Sn 52 45 (e_un n_52_45) := u_gotoT (s_goto (off := (-21)) hq_52 (by decide +kernel) rfl : e_Sn 52 45 (o_goto 24)) u_atT
noncomputable def n_52_42 : e_Y := u_inc f_l2 f_s2 1 n_52_45
theorem t_52_42 : e_Sn 52 42 (e_un n_52_42) := u_incT f_l2_eq (fun _ _ _ => f_s2_eq) (s_iinc (zz := (1)) hq_52 (by decide +kernel) rfl (by decide +kernel) ⟨by decide, by decide⟩ : e_Sn 52 42 (o_iinc 2 1 45)) t_52_45
noncomputable def n_52_41 : e_Y := u_old (o_ast 0 e_okI 42) n_52_42
theorem t_52_41 : e_Sn 52 41 (e_un n_52_41) := u_oldT (s_iast hq_52 (by decide +kernel) rfl : e_Sn 52 41 (o_ast 0 e_okI 42)) t_52_42 (e_cg_ast 0 e_okI)
noncomputable def n_52_40 : e_Y := u_ald 0 (u_old (o_ald e_fcs 41) n_52_41) n_52_41
theorem t_52_40 : e_Sn 52 40 (e_un n_52_40) := u_aldT (s_iald hq_52 (by decide +kernel) rfl : e_Sn 52 40 (o_ald e_fcs 41)) t_52_41
noncomputable def n_52_39 : e_Y := u_ld f_okI f_l2 n_52_40
theorem t_52_39 : e_Sn 52 39 (e_un n_52_39) := u_ldIT f_l2_eq (s_iload (i := .iload_n 2) (len := 1) hq_52 (by decide +kernel) rfl (.inr ⟨2, rfl, rfl, rfl⟩) : e_Sn 52 39 (o_load e_okI 2 40)) t_52_40
noncomputable def n_52_36 : e_Y := u_getf 10 2 (u_old (o_getf (e_f1 10 2) 39) n_52_39) n_52_39
theorem t_52_36 : e_Sn 52 36 (e_un n_52_36) := u_getfT (s_getf (C := er_10) (T := et_10) (N := 11) (ref := "Plateroomprinter$State") (index := 25) (ci := 10) (k := 2) hq_52 ho_52 ⟨rfl, by decide, ei_10, (List.mem_of_getElem? (i := 322) (by decide +kernel)), .inl rfl⟩ (by decide +kernel) rfl : e_Sn 52 36 (o_getf (e_f1 10 2) 39)) t_52_39
noncomputable def n_52_35 : e_Y := u_ld f_okA f_l1 n_52_36
theorem t_52_35 : e_Sn 52 35 (e_un n_52_35) := u_ldAT f_l1_eq (s_aload (i := .aload_n 1) (len := 1) hq_52 (by decide +kernel) rfl (.inr ⟨1, rfl, rfl, rfl⟩) : e_Sn 52 35 (o_load e_okR 1 36)) t_52_36
noncomputable def n_52_34 : e_Y := u_ld f_okI f_l2 n_52_35
theorem t_52_34 : e_Sn 52 34 (e_un n_52_34) := u_ldIT f_l2_eq (s_iload (i := .iload_n 2) (len := 1) hq_52 (by decide +kernel) rfl (.inr ⟨2, rfl, rfl, rfl⟩) : e_Sn 52 34 (o_load e_okI 2 35)) t_52_35
noncomputable def n_52_31 : e_Y := u_getf 10 2 (u_old (o_getf (e_f1 10 2) 34) n_52_34) n_52_34
theorem t_52_31 : e_Sn 52 31 (e_un n_52_31) := u_getfT (s_getf (C := er_10) (T := et_10) (N := 11) (ref := "Plateroomprinter$State") (index := 25) (ci := 10) (k := 2) hq_52 ho_52 ⟨rfl, by decide, ei_10, (List.mem_of_getElem? (i := 322) (by decide +kernel)), .inl rfl⟩ (by decide +kernel) rfl : e_Sn 52 31 (o_getf (e_f1 10 2) 34)) t_52_34
noncomputable def n_52_30 : e_Y := u_ld f_okA f_l0 n_52_31
theorem t_52_30 : e_Sn 52 30 (e_un n_52_30) := u_ldAT f_l0_eq (s_aload (i := .aload_n 0) (len := 1) hq_52 (by decide +kernel) rfl (.inr ⟨0, rfl, rfl, rfl⟩) : e_Sn 52 30 (o_load e_okR 0 31)) t_52_31
noncomputable def n_52_27 : e_Y := u_jmp y_ge (u_old2 (o_clt 30 48) 30 n_52_30 n_52_48) n_52_30 n_52_48
theorem t_52_27 : e_Sn 52 27 (e_un n_52_27) := u_cltT rfl (s_cge (off := (21)) hq_52 (by decide +kernel) rfl rfl : e_Sn 52 27 (o_clt 30 48)) t_52_30 t_52_48
noncomputable def n_52_25 : e_Y := u_push (.inl 2147483680) n_52_27
theorem t_52_25 : e_Sn 52 25 (e_un n_52_25) := u_pushT (s_bipush (n := (32)) hq_52 (by decide +kernel) rfl ⟨by decide +kernel, by decide +kernel⟩ : e_Sn 52 25 (o_push (.inl 2147483680) 27)) t_52_27
noncomputable def n_52_24 : e_Y := u_ld f_okI f_l2 n_52_25
theorem t_52_24 : e_Sn 52 24 (e_un n_52_24) := u_ldIT f_l2_eq (s_iload (i := .iload_n 2) (len := 1) hq_52 (by decide +kernel) rfl (.inr ⟨2, rfl, rfl, rfl⟩) : e_Sn 52 24 (o_load e_okI 2 25)) t_52_25
noncomputable def n_52_23 : e_Y := u_st f_okI f_s2 n_52_24
theorem t_52_23 : e_Sn 52 23 (e_un n_52_23) := u_stIT (fun _ _ _ => f_s2_eq) (s_istore (i := .istore_n 2) (len := 1) hq_52 (by decide +kernel) rfl (.inr ⟨2, rfl, rfl, rfl⟩) : e_Sn 52 23 (o_store e_okI 2 24)) t_52_24
noncomputable def n_52_22 : e_Y := u_push (.inl 2147483648) n_52_23
theorem t_52_22 : e_Sn 52 22 (e_un n_52_22) := u_pushT (s_iconst (n := (0)) hq_52 (by decide +kernel) rfl ⟨by decide +kernel, by decide +kernel⟩ : e_Sn 52 22 (o_push (.inl 2147483648) 23)) t_52_23
noncomputable def n_52_19 : e_Y := u_callV 7 45 2 21 2 n_45_0 n_52_22
theorem t_52_19 : e_Sn 52 19 (e_un n_52_19) := u_callVT rfl (s_callV (ci := 7) (C := er_7) (T := et_7) (N := 6) (index := 58) hq_52 ho_52 hy_45 hp_45 hc_45 hi_45 hd_45 (List.mem_of_getElem? (i := 756) (by decide +kernel)) hs_45 (List.mem_of_getElem? (i := 758) (by decide +kernel)) rfl (by decide +kernel) rfl : e_Sn 52 19 (o_callV (e_s1 7 45 2) 2 22)) t_45_0 t_52_22
noncomputable def n_52_16 : e_Y := u_getf 10 1 (u_old (o_getf (e_f1 10 1) 19) n_52_19) n_52_19
theorem t_52_16 : e_Sn 52 16 (e_un n_52_16) := u_getfT (s_getf (C := er_10) (T := et_10) (N := 11) (ref := "Plateroomprinter$State") (index := 21) (ci := 10) (k := 1) hq_52 ho_52 ⟨rfl, by decide, ei_10, (List.mem_of_getElem? (i := 319) (by decide +kernel)), .inl rfl⟩ (by decide +kernel) rfl : e_Sn 52 16 (o_getf (e_f1 10 1) 19)) t_52_19
noncomputable def n_52_15 : e_Y := u_ld f_okA f_l1 n_52_16
theorem t_52_15 : e_Sn 52 15 (e_un n_52_15) := u_ldAT f_l1_eq (s_aload (i := .aload_n 1) (len := 1) hq_52 (by decide +kernel) rfl (.inr ⟨1, rfl, rfl, rfl⟩) : e_Sn 52 15 (o_load e_okR 1 16)) t_52_16
noncomputable def n_52_12 : e_Y := u_getf 10 1 (u_old (o_getf (e_f1 10 1) 15) n_52_15) n_52_15
theorem t_52_12 : e_Sn 52 12 (e_un n_52_12) := u_getfT (s_getf (C := er_10) (T := et_10) (N := 11) (ref := "Plateroomprinter$State") (index := 21) (ci := 10) (k := 1) hq_52 ho_52 ⟨rfl, by decide, ei_10, (List.mem_of_getElem? (i := 319) (by decide +kernel)), .inl rfl⟩ (by decide +kernel) rfl : e_Sn 52 12 (o_getf (e_f1 10 1) 15)) t_52_15
noncomputable def n_52_11 : e_Y := u_ld f_okA f_l0 n_52_12
theorem t_52_11 : e_Sn 52 11 (e_un n_52_11) := u_ldAT f_l0_eq (s_aload (i := .aload_n 0) (len := 1) hq_52 (by decide +kernel) rfl (.inr ⟨0, rfl, rfl, rfl⟩) : e_Sn 52 11 (o_load e_okR 0 12)) t_52_12
noncomputable def n_52_8 : e_Y := u_callV 5 38 3 22 2 n_38_0 n_52_11
theorem t_52_8 : e_Sn 52 8 (e_un n_52_8) := u_callVT rfl (s_callV (ci := 5) (C := er_5) (T := et_5) (N := 5) (index := 54) hq_52 ho_52 hy_38 hp_38 hc_38 hi_38 hd_38 (List.mem_of_getElem? (i := 752) (by decide +kernel)) hs_38 (List.mem_of_getElem? (i := 754) (by decide +kernel)) rfl (by decide +kernel) rfl : e_Sn 52 8 (o_callV (e_s1 5 38 3) 2 11)) t_38_0 t_52_11
noncomputable def n_52_5 : e_Y := u_getf 10 0 (u_old (o_getf (e_f1 10 0) 8) n_52_8) n_52_8
theorem t_52_5 : e_Sn 52 5 (e_un n_52_5) := u_getfT (s_getf (C := er_10) (T := et_10) (N := 11) (ref := "Plateroomprinter$State") (index := 12) (ci := 10) (k := 0) hq_52 ho_52 ⟨rfl, by decide, ei_10, (List.mem_of_getElem? (i := 316) (by decide +kernel)), .inl rfl⟩ (by decide +kernel) rfl : e_Sn 52 5 (o_getf (e_f1 10 0) 8)) t_52_8
noncomputable def n_52_4 : e_Y := u_ld f_okA f_l1 n_52_5
theorem t_52_4 : e_Sn 52 4 (e_un n_52_4) := u_ldAT f_l1_eq (s_aload (i := .aload_n 1) (len := 1) hq_52 (by decide +kernel) rfl (.inr ⟨1, rfl, rfl, rfl⟩) : e_Sn 52 4 (o_load e_okR 1 5)) t_52_5
noncomputable def n_52_1 : e_Y := u_getf 10 0 (u_old (o_getf (e_f1 10 0) 4) n_52_4) n_52_4
theorem t_52_1 : e_Sn 52 1 (e_un n_52_1) := u_getfT (s_getf (C := er_10) (T := et_10) (N := 11) (ref := "Plateroomprinter$State") (index := 12) (ci := 10) (k := 0) hq_52 ho_52 ⟨rfl, by decide, ei_10, (List.mem_of_getElem? (i := 316) (by decide +kernel)), .inl rfl⟩ (by decide +kernel) rfl : e_Sn 52 1 (o_getf (e_f1 10 0) 4)) t_52_4
noncomputable def n_52_0 : e_Y := u_ld f_okA f_l0 n_52_1
theorem t_52_0 : e_Sn 52 0 (e_un n_52_0) := u_ldAT f_l0_eq (s_aload (i := .aload_n 0) (len := 1) hq_52 (by decide +kernel) rfl (.inr ⟨0, rfl, rfl, rfl⟩) : e_Sn 52 0 (o_load e_okR 0 1)) t_52_1
noncomputable def e_tb_52 : e_X := (e_br 24 (e_lf 0 (e_un n_52_0)) (e_br 50 (e_lf 24 (e_un n_52_24)) (e_lf 50 (e_un n_52_50))))
theorem e_tk_52 : e_Tb 52 e_tb_52 := (e_brT (e_lfT t_52_0) (e_brT (e_lfT t_52_24) (e_lfT t_52_50)))
theorem hq_57 : (e_ml[57]?).map (·.2.1) = some prog_12_method_3_code := rfl
theorem ho_57 : (e_ml[57]?).map (·.1.cls) = some "Plateroomprinter$World" := rfl
theorem hr_57 : (e_ml[57]?).map (·.2.2.2) = some none := rfl
noncomputable def n_57_208 : e_Y := u_tab (o_retv)
theorem t_57_208 : e_Sn 57 208 (e_un n_57_208) := u_tabT (s_vret hq_57 hr_57 (by decide +kernel) : e_Sn 57 208 (o_retv))
noncomputable def n_57_205 : e_Y := u_old (o_putf (e_f1 11 14) e_okI 208) n_57_208
theorem t_57_205 : e_Sn 57 205 (e_un n_57_205) := u_oldT (s_putf (ty0 := ey_11) (ok := e_okI) (C := er_11) (T := et_11) (N := 15) (ref := "Plateroomprinter$World") (index := 89) (ci := 11) (k := 14) hq_57 ho_57 ⟨rfl, by decide, ei_11, (List.mem_of_getElem? (i := 500) (by decide +kernel)), .inl rfl⟩ eo_11 en_11 e_oksI (.inl rfl) (by decide +kernel) rfl : e_Sn 57 205 (o_putf (e_f1 11 14) e_okI 208)) t_57_208 (e_cg_putf (e_f1 11 14) e_okI)
noncomputable def n_57_202 : e_Y := u_getf 11 14 (u_old (o_getf (e_f1 11 14) 205) n_57_205) n_57_205
theorem t_57_202 : e_Sn 57 202 (e_un n_57_202) := u_getfT (s_getf (C := er_11) (T := et_11) (N := 15) (ref := "Plateroomprinter$World") (index := 89) (ci := 11) (k := 14) hq_57 ho_57 ⟨rfl, by decide, ei_11, (List.mem_of_getElem? (i := 500) (by decide +kernel)), .inl rfl⟩ (by decide +kernel) rfl : e_Sn 57 202 (o_getf (e_f1 11 14) 205)) t_57_205
noncomputable def n_57_201 : e_Y := u_ld f_okA f_l1 n_57_202
theorem t_57_201 : e_Sn 57 201 (e_un n_57_201) := u_ldAT f_l1_eq (s_aload (i := .aload_n 1) (len := 1) hq_57 (by decide +kernel) rfl (.inr ⟨1, rfl, rfl, rfl⟩) : e_Sn 57 201 (o_load e_okR 1 202)) t_57_202
noncomputable def n_57_200 : e_Y := u_ld f_okA f_l0 n_57_201
theorem t_57_200 : e_Sn 57 200 (e_un n_57_200) := u_ldAT f_l0_eq (s_aload (i := .aload_n 0) (len := 1) hq_57 (by decide +kernel) rfl (.inr ⟨0, rfl, rfl, rfl⟩) : e_Sn 57 200 (o_load e_okR 0 201)) t_57_201
noncomputable def n_57_197 : e_Y := u_old (o_putf (e_f1 11 13) e_okI 200) n_57_200
theorem t_57_197 : e_Sn 57 197 (e_un n_57_197) := u_oldT (s_putf (ty0 := ey_11) (ok := e_okI) (C := er_11) (T := et_11) (N := 15) (ref := "Plateroomprinter$World") (index := 86) (ci := 11) (k := 13) hq_57 ho_57 ⟨rfl, by decide, ei_11, (List.mem_of_getElem? (i := 497) (by decide +kernel)), .inl rfl⟩ eo_11 en_11 e_oksI (.inl rfl) (by decide +kernel) rfl : e_Sn 57 197 (o_putf (e_f1 11 13) e_okI 200)) t_57_200 (e_cg_putf (e_f1 11 13) e_okI)
noncomputable def n_57_194 : e_Y := u_getf 11 13 (u_old (o_getf (e_f1 11 13) 197) n_57_197) n_57_197
theorem t_57_194 : e_Sn 57 194 (e_un n_57_194) := u_getfT (s_getf (C := er_11) (T := et_11) (N := 15) (ref := "Plateroomprinter$World") (index := 86) (ci := 11) (k := 13) hq_57 ho_57 ⟨rfl, by decide, ei_11, (List.mem_of_getElem? (i := 497) (by decide +kernel)), .inl rfl⟩ (by decide +kernel) rfl : e_Sn 57 194 (o_getf (e_f1 11 13) 197)) t_57_197
noncomputable def n_57_193 : e_Y := u_ld f_okA f_l1 n_57_194
theorem t_57_193 : e_Sn 57 193 (e_un n_57_193) := u_ldAT f_l1_eq (s_aload (i := .aload_n 1) (len := 1) hq_57 (by decide +kernel) rfl (.inr ⟨1, rfl, rfl, rfl⟩) : e_Sn 57 193 (o_load e_okR 1 194)) t_57_194
noncomputable def n_57_192 : e_Y := u_ld f_okA f_l0 n_57_193
theorem t_57_192 : e_Sn 57 192 (e_un n_57_192) := u_ldAT f_l0_eq (s_aload (i := .aload_n 0) (len := 1) hq_57 (by decide +kernel) rfl (.inr ⟨0, rfl, rfl, rfl⟩) : e_Sn 57 192 (o_load e_okR 0 193)) t_57_193
noncomputable def n_57_189 : e_Y := u_old (o_putf (e_f1 11 12) e_okI 192) n_57_192
theorem t_57_189 : e_Sn 57 189 (e_un n_57_189) := u_oldT (s_putf (ty0 := ey_11) (ok := e_okI) (C := er_11) (T := et_11) (N := 15) (ref := "Plateroomprinter$World") (index := 83) (ci := 11) (k := 12) hq_57 ho_57 ⟨rfl, by decide, ei_11, (List.mem_of_getElem? (i := 494) (by decide +kernel)), .inl rfl⟩ eo_11 en_11 e_oksI (.inl rfl) (by decide +kernel) rfl : e_Sn 57 189 (o_putf (e_f1 11 12) e_okI 192)) t_57_192 (e_cg_putf (e_f1 11 12) e_okI)
noncomputable def n_57_186 : e_Y := u_getf 11 12 (u_old (o_getf (e_f1 11 12) 189) n_57_189) n_57_189
theorem t_57_186 : e_Sn 57 186 (e_un n_57_186) := u_getfT (s_getf (C := er_11) (T := et_11) (N := 15) (ref := "Plateroomprinter$World") (index := 83) (ci := 11) (k := 12) hq_57 ho_57 ⟨rfl, by decide, ei_11, (List.mem_of_getElem? (i := 494) (by decide +kernel)), .inl rfl⟩ (by decide +kernel) rfl : e_Sn 57 186 (o_getf (e_f1 11 12) 189)) t_57_189
noncomputable def n_57_185 : e_Y := u_ld f_okA f_l1 n_57_186
theorem t_57_185 : e_Sn 57 185 (e_un n_57_185) := u_ldAT f_l1_eq (s_aload (i := .aload_n 1) (len := 1) hq_57 (by decide +kernel) rfl (.inr ⟨1, rfl, rfl, rfl⟩) : e_Sn 57 185 (o_load e_okR 1 186)) t_57_186
noncomputable def n_57_184 : e_Y := u_ld f_okA f_l0 n_57_185
theorem t_57_184 : e_Sn 57 184 (e_un n_57_184) := u_ldAT f_l0_eq (s_aload (i := .aload_n 0) (len := 1) hq_57 (by decide +kernel) rfl (.inr ⟨0, rfl, rfl, rfl⟩) : e_Sn 57 184 (o_load e_okR 0 185)) t_57_185
noncomputable def n_57_181 : e_Y := (u_at 160)
theorem t_57_181 : e_Sn 57 181 (e_un n_57_181) := u_gotoT (s_goto (off := (-21)) hq_57 (by decide +kernel) rfl : e_Sn 57 181 (o_goto 160)) u_atT
noncomputable def n_57_178 : e_Y := u_inc f_l2 f_s2 1 n_57_181
theorem t_57_178 : e_Sn 57 178 (e_un n_57_178) := u_incT f_l2_eq (fun _ _ _ => f_s2_eq) (s_iinc (zz := (1)) hq_57 (by decide +kernel) rfl (by decide +kernel) ⟨by decide, by decide⟩ : e_Sn 57 178 (o_iinc 2 1 181)) t_57_181
noncomputable def n_57_177 : e_Y := u_old (o_ast 0 e_okI 178) n_57_178
theorem t_57_177 : e_Sn 57 177 (e_un n_57_177) := u_oldT (s_iast hq_57 (by decide +kernel) rfl : e_Sn 57 177 (o_ast 0 e_okI 178)) t_57_178 (e_cg_ast 0 e_okI)
noncomputable def n_57_176 : e_Y := u_ald 0 (u_old (o_ald e_fcs 177) n_57_177) n_57_177
theorem t_57_176 : e_Sn 57 176 (e_un n_57_176) := u_aldT (s_iald hq_57 (by decide +kernel) rfl : e_Sn 57 176 (o_ald e_fcs 177)) t_57_177
noncomputable def n_57_175 : e_Y := u_ld f_okI f_l2 n_57_176
theorem t_57_175 : e_Sn 57 175 (e_un n_57_175) := u_ldIT f_l2_eq (s_iload (i := .iload_n 2) (len := 1) hq_57 (by decide +kernel) rfl (.inr ⟨2, rfl, rfl, rfl⟩) : e_Sn 57 175 (o_load e_okI 2 176)) t_57_176
noncomputable def n_57_172 : e_Y := u_getf 11 11 (u_old (o_getf (e_f1 11 11) 175) n_57_175) n_57_175
theorem t_57_172 : e_Sn 57 172 (e_un n_57_172) := u_getfT (s_getf (C := er_11) (T := et_11) (N := 15) (ref := "Plateroomprinter$World") (index := 61) (ci := 11) (k := 11) hq_57 ho_57 ⟨rfl, by decide, ei_11, (List.mem_of_getElem? (i := 491) (by decide +kernel)), .inl rfl⟩ (by decide +kernel) rfl : e_Sn 57 172 (o_getf (e_f1 11 11) 175)) t_57_175
noncomputable def n_57_171 : e_Y := u_ld f_okA f_l1 n_57_172
theorem t_57_171 : e_Sn 57 171 (e_un n_57_171) := u_ldAT f_l1_eq (s_aload (i := .aload_n 1) (len := 1) hq_57 (by decide +kernel) rfl (.inr ⟨1, rfl, rfl, rfl⟩) : e_Sn 57 171 (o_load e_okR 1 172)) t_57_172
noncomputable def n_57_170 : e_Y := u_ld f_okI f_l2 n_57_171
theorem t_57_170 : e_Sn 57 170 (e_un n_57_170) := u_ldIT f_l2_eq (s_iload (i := .iload_n 2) (len := 1) hq_57 (by decide +kernel) rfl (.inr ⟨2, rfl, rfl, rfl⟩) : e_Sn 57 170 (o_load e_okI 2 171)) t_57_171
noncomputable def n_57_167 : e_Y := u_getf 11 11 (u_old (o_getf (e_f1 11 11) 170) n_57_170) n_57_170
theorem t_57_167 : e_Sn 57 167 (e_un n_57_167) := u_getfT (s_getf (C := er_11) (T := et_11) (N := 15) (ref := "Plateroomprinter$World") (index := 61) (ci := 11) (k := 11) hq_57 ho_57 ⟨rfl, by decide, ei_11, (List.mem_of_getElem? (i := 491) (by decide +kernel)), .inl rfl⟩ (by decide +kernel) rfl : e_Sn 57 167 (o_getf (e_f1 11 11) 170)) t_57_170
noncomputable def n_57_166 : e_Y := u_ld f_okA f_l0 n_57_167
theorem t_57_166 : e_Sn 57 166 (e_un n_57_166) := u_ldAT f_l0_eq (s_aload (i := .aload_n 0) (len := 1) hq_57 (by decide +kernel) rfl (.inr ⟨0, rfl, rfl, rfl⟩) : e_Sn 57 166 (o_load e_okR 0 167)) t_57_167
noncomputable def n_57_163 : e_Y := u_jmp y_ge (u_old2 (o_clt 166 184) 166 n_57_166 n_57_184) n_57_166 n_57_184
theorem t_57_163 : e_Sn 57 163 (e_un n_57_163) := u_cltT rfl (s_cge (off := (21)) hq_57 (by decide +kernel) rfl rfl : e_Sn 57 163 (o_clt 166 184)) t_57_166 t_57_184
noncomputable def n_57_161 : e_Y := u_push (.inl 2147483701) n_57_163
theorem t_57_161 : e_Sn 57 161 (e_un n_57_161) := u_pushT (s_bipush (n := (53)) hq_57 (by decide +kernel) rfl ⟨by decide +kernel, by decide +kernel⟩ : e_Sn 57 161 (o_push (.inl 2147483701) 163)) t_57_163
noncomputable def n_57_160 : e_Y := u_ld f_okI f_l2 n_57_161
theorem t_57_160 : e_Sn 57 160 (e_un n_57_160) := u_ldIT f_l2_eq (s_iload (i := .iload_n 2) (len := 1) hq_57 (by decide +kernel) rfl (.inr ⟨2, rfl, rfl, rfl⟩) : e_Sn 57 160 (o_load e_okI 2 161)) t_57_161
noncomputable def n_57_159 : e_Y := u_st f_okI f_s2 n_57_160
theorem t_57_159 : e_Sn 57 159 (e_un n_57_159) := u_stIT (fun _ _ _ => f_s2_eq) (s_istore (i := .istore_n 2) (len := 1) hq_57 (by decide +kernel) rfl (.inr ⟨2, rfl, rfl, rfl⟩) : e_Sn 57 159 (o_store e_okI 2 160)) t_57_160
noncomputable def n_57_158 : e_Y := u_push (.inl 2147483648) n_57_159
theorem t_57_158 : e_Sn 57 158 (e_un n_57_158) := u_pushT (s_iconst (n := (0)) hq_57 (by decide +kernel) rfl ⟨by decide +kernel, by decide +kernel⟩ : e_Sn 57 158 (o_push (.inl 2147483648) 159)) t_57_159
noncomputable def n_57_155 : e_Y := u_old (o_putf (e_f1 11 10) e_okI 158) n_57_158
theorem t_57_155 : e_Sn 57 155 (e_un n_57_155) := u_oldT (s_putf (ty0 := ey_11) (ok := e_okI) (C := er_11) (T := et_11) (N := 15) (ref := "Plateroomprinter$World") (index := 80) (ci := 11) (k := 10) hq_57 ho_57 ⟨rfl, by decide, ei_11, (List.mem_of_getElem? (i := 488) (by decide +kernel)), .inl rfl⟩ eo_11 en_11 e_oksI (.inl rfl) (by decide +kernel) rfl : e_Sn 57 155 (o_putf (e_f1 11 10) e_okI 158)) t_57_158 (e_cg_putf (e_f1 11 10) e_okI)
noncomputable def n_57_152 : e_Y := u_getf 11 10 (u_old (o_getf (e_f1 11 10) 155) n_57_155) n_57_155
theorem t_57_152 : e_Sn 57 152 (e_un n_57_152) := u_getfT (s_getf (C := er_11) (T := et_11) (N := 15) (ref := "Plateroomprinter$World") (index := 80) (ci := 11) (k := 10) hq_57 ho_57 ⟨rfl, by decide, ei_11, (List.mem_of_getElem? (i := 488) (by decide +kernel)), .inl rfl⟩ (by decide +kernel) rfl : e_Sn 57 152 (o_getf (e_f1 11 10) 155)) t_57_155
noncomputable def n_57_151 : e_Y := u_ld f_okA f_l1 n_57_152
theorem t_57_151 : e_Sn 57 151 (e_un n_57_151) := u_ldAT f_l1_eq (s_aload (i := .aload_n 1) (len := 1) hq_57 (by decide +kernel) rfl (.inr ⟨1, rfl, rfl, rfl⟩) : e_Sn 57 151 (o_load e_okR 1 152)) t_57_152
noncomputable def n_57_150 : e_Y := u_ld f_okA f_l0 n_57_151
theorem t_57_150 : e_Sn 57 150 (e_un n_57_150) := u_ldAT f_l0_eq (s_aload (i := .aload_n 0) (len := 1) hq_57 (by decide +kernel) rfl (.inr ⟨0, rfl, rfl, rfl⟩) : e_Sn 57 150 (o_load e_okR 0 151)) t_57_151
noncomputable def n_57_147 : e_Y := u_callV 3 27 4 23 2 n_27_0 n_57_150
theorem t_57_147 : e_Sn 57 147 (e_un n_57_147) := u_callVT rfl (s_callV (ci := 3) (C := er_3) (T := et_3) (N := 5) (index := 111) hq_57 ho_57 hy_27 hp_27 hc_27 hi_27 hd_27 (List.mem_of_getElem? (i := 771) (by decide +kernel)) hs_27 (List.mem_of_getElem? (i := 773) (by decide +kernel)) rfl (by decide +kernel) rfl : e_Sn 57 147 (o_callV (e_s1 3 27 4) 2 150)) t_27_0 t_57_150
noncomputable def n_57_144 : e_Y := u_getf 11 9 (u_old (o_getf (e_f1 11 9) 147) n_57_147) n_57_147
theorem t_57_144 : e_Sn 57 144 (e_un n_57_144) := u_getfT (s_getf (C := er_11) (T := et_11) (N := 15) (ref := "Plateroomprinter$World") (index := 57) (ci := 11) (k := 9) hq_57 ho_57 ⟨rfl, by decide, ei_11, (List.mem_of_getElem? (i := 485) (by decide +kernel)), .inl rfl⟩ (by decide +kernel) rfl : e_Sn 57 144 (o_getf (e_f1 11 9) 147)) t_57_147
noncomputable def n_57_143 : e_Y := u_ld f_okA f_l1 n_57_144
theorem t_57_143 : e_Sn 57 143 (e_un n_57_143) := u_ldAT f_l1_eq (s_aload (i := .aload_n 1) (len := 1) hq_57 (by decide +kernel) rfl (.inr ⟨1, rfl, rfl, rfl⟩) : e_Sn 57 143 (o_load e_okR 1 144)) t_57_144
noncomputable def n_57_140 : e_Y := u_getf 11 9 (u_old (o_getf (e_f1 11 9) 143) n_57_143) n_57_143
theorem t_57_140 : e_Sn 57 140 (e_un n_57_140) := u_getfT (s_getf (C := er_11) (T := et_11) (N := 15) (ref := "Plateroomprinter$World") (index := 57) (ci := 11) (k := 9) hq_57 ho_57 ⟨rfl, by decide, ei_11, (List.mem_of_getElem? (i := 485) (by decide +kernel)), .inl rfl⟩ (by decide +kernel) rfl : e_Sn 57 140 (o_getf (e_f1 11 9) 143)) t_57_143
noncomputable def n_57_139 : e_Y := u_ld f_okA f_l0 n_57_140
theorem t_57_139 : e_Sn 57 139 (e_un n_57_139) := u_ldAT f_l0_eq (s_aload (i := .aload_n 0) (len := 1) hq_57 (by decide +kernel) rfl (.inr ⟨0, rfl, rfl, rfl⟩) : e_Sn 57 139 (o_load e_okR 0 140)) t_57_140
noncomputable def n_57_136 : e_Y := u_callV 9 49 3 22 2 n_49_0 n_57_139
theorem t_57_136 : e_Sn 57 136 (e_un n_57_136) := u_callVT rfl (s_callV (ci := 9) (C := er_9) (T := et_9) (N := 1) (index := 108) hq_57 ho_57 hy_49 hp_49 hc_49 hi_49 hd_49 (List.mem_of_getElem? (i := 767) (by decide +kernel)) hs_49 (List.mem_of_getElem? (i := 769) (by decide +kernel)) rfl (by decide +kernel) rfl : e_Sn 57 136 (o_callV (e_s1 9 49 3) 2 139)) t_49_0 t_57_139
noncomputable def n_57_133 : e_Y := u_getf 11 8 (u_old (o_getf (e_f1 11 8) 136) n_57_136) n_57_136
theorem t_57_133 : e_Sn 57 133 (e_un n_57_133) := u_getfT (s_getf (C := er_11) (T := et_11) (N := 15) (ref := "Plateroomprinter$World") (index := 51) (ci := 11) (k := 8) hq_57 ho_57 ⟨rfl, by decide, ei_11, (List.mem_of_getElem? (i := 482) (by decide +kernel)), .inl rfl⟩ (by decide +kernel) rfl : e_Sn 57 133 (o_getf (e_f1 11 8) 136)) t_57_136
noncomputable def n_57_132 : e_Y := u_ld f_okA f_l1 n_57_133
theorem t_57_132 : e_Sn 57 132 (e_un n_57_132) := u_ldAT f_l1_eq (s_aload (i := .aload_n 1) (len := 1) hq_57 (by decide +kernel) rfl (.inr ⟨1, rfl, rfl, rfl⟩) : e_Sn 57 132 (o_load e_okR 1 133)) t_57_133
noncomputable def n_57_129 : e_Y := u_getf 11 8 (u_old (o_getf (e_f1 11 8) 132) n_57_132) n_57_132
theorem t_57_129 : e_Sn 57 129 (e_un n_57_129) := u_getfT (s_getf (C := er_11) (T := et_11) (N := 15) (ref := "Plateroomprinter$World") (index := 51) (ci := 11) (k := 8) hq_57 ho_57 ⟨rfl, by decide, ei_11, (List.mem_of_getElem? (i := 482) (by decide +kernel)), .inl rfl⟩ (by decide +kernel) rfl : e_Sn 57 129 (o_getf (e_f1 11 8) 132)) t_57_132
noncomputable def n_57_128 : e_Y := u_ld f_okA f_l0 n_57_129
theorem t_57_128 : e_Sn 57 128 (e_un n_57_128) := u_ldAT f_l0_eq (s_aload (i := .aload_n 0) (len := 1) hq_57 (by decide +kernel) rfl (.inr ⟨0, rfl, rfl, rfl⟩) : e_Sn 57 128 (o_load e_okR 0 129)) t_57_129
noncomputable def n_57_125 : e_Y := u_callV 9 49 3 22 2 n_49_0 n_57_128
theorem t_57_125 : e_Sn 57 125 (e_un n_57_125) := u_callVT rfl (s_callV (ci := 9) (C := er_9) (T := et_9) (N := 1) (index := 108) hq_57 ho_57 hy_49 hp_49 hc_49 hi_49 hd_49 (List.mem_of_getElem? (i := 767) (by decide +kernel)) hs_49 (List.mem_of_getElem? (i := 769) (by decide +kernel)) rfl (by decide +kernel) rfl : e_Sn 57 125 (o_callV (e_s1 9 49 3) 2 128)) t_49_0 t_57_128
noncomputable def n_57_122 : e_Y := u_getf 11 7 (u_old (o_getf (e_f1 11 7) 125) n_57_125) n_57_125
theorem t_57_122 : e_Sn 57 122 (e_un n_57_122) := u_getfT (s_getf (C := er_11) (T := et_11) (N := 15) (ref := "Plateroomprinter$World") (index := 47) (ci := 11) (k := 7) hq_57 ho_57 ⟨rfl, by decide, ei_11, (List.mem_of_getElem? (i := 479) (by decide +kernel)), .inl rfl⟩ (by decide +kernel) rfl : e_Sn 57 122 (o_getf (e_f1 11 7) 125)) t_57_125
noncomputable def n_57_121 : e_Y := u_ld f_okA f_l1 n_57_122
theorem t_57_121 : e_Sn 57 121 (e_un n_57_121) := u_ldAT f_l1_eq (s_aload (i := .aload_n 1) (len := 1) hq_57 (by decide +kernel) rfl (.inr ⟨1, rfl, rfl, rfl⟩) : e_Sn 57 121 (o_load e_okR 1 122)) t_57_122
noncomputable def n_57_118 : e_Y := u_getf 11 7 (u_old (o_getf (e_f1 11 7) 121) n_57_121) n_57_121
theorem t_57_118 : e_Sn 57 118 (e_un n_57_118) := u_getfT (s_getf (C := er_11) (T := et_11) (N := 15) (ref := "Plateroomprinter$World") (index := 47) (ci := 11) (k := 7) hq_57 ho_57 ⟨rfl, by decide, ei_11, (List.mem_of_getElem? (i := 479) (by decide +kernel)), .inl rfl⟩ (by decide +kernel) rfl : e_Sn 57 118 (o_getf (e_f1 11 7) 121)) t_57_121
noncomputable def n_57_117 : e_Y := u_ld f_okA f_l0 n_57_118
theorem t_57_117 : e_Sn 57 117 (e_un n_57_117) := u_ldAT f_l0_eq (s_aload (i := .aload_n 0) (len := 1) hq_57 (by decide +kernel) rfl (.inr ⟨0, rfl, rfl, rfl⟩) : e_Sn 57 117 (o_load e_okR 0 118)) t_57_118
noncomputable def n_57_114 : e_Y := (u_at 79)
theorem t_57_114 : e_Sn 57 114 (e_un n_57_114) := u_gotoT (s_goto (off := (-35)) hq_57 (by decide +kernel) rfl : e_Sn 57 114 (o_goto 79)) u_atT
noncomputable def n_57_111 : e_Y := u_inc f_l2 f_s2 1 n_57_114
theorem t_57_111 : e_Sn 57 111 (e_un n_57_111) := u_incT f_l2_eq (fun _ _ _ => f_s2_eq) (s_iinc (zz := (1)) hq_57 (by decide +kernel) rfl (by decide +kernel) ⟨by decide, by decide⟩ : e_Sn 57 111 (o_iinc 2 1 114)) t_57_114
noncomputable def n_57_110 : e_Y := u_old (o_ast 0 e_okI 111) n_57_111
theorem t_57_110 : e_Sn 57 110 (e_un n_57_110) := u_oldT (s_iast hq_57 (by decide +kernel) rfl : e_Sn 57 110 (o_ast 0 e_okI 111)) t_57_111 (e_cg_ast 0 e_okI)
noncomputable def n_57_109 : e_Y := u_ald 0 (u_old (o_ald e_fcs 110) n_57_110) n_57_110
theorem t_57_109 : e_Sn 57 109 (e_un n_57_109) := u_aldT (s_iald hq_57 (by decide +kernel) rfl : e_Sn 57 109 (o_ald e_fcs 110)) t_57_110
noncomputable def n_57_108 : e_Y := u_ld f_okI f_l2 n_57_109
theorem t_57_108 : e_Sn 57 108 (e_un n_57_108) := u_ldIT f_l2_eq (s_iload (i := .iload_n 2) (len := 1) hq_57 (by decide +kernel) rfl (.inr ⟨2, rfl, rfl, rfl⟩) : e_Sn 57 108 (o_load e_okI 2 109)) t_57_109
noncomputable def n_57_105 : e_Y := u_getf 11 6 (u_old (o_getf (e_f1 11 6) 108) n_57_108) n_57_108
theorem t_57_105 : e_Sn 57 105 (e_un n_57_105) := u_getfT (s_getf (C := er_11) (T := et_11) (N := 15) (ref := "Plateroomprinter$World") (index := 40) (ci := 11) (k := 6) hq_57 ho_57 ⟨rfl, by decide, ei_11, (List.mem_of_getElem? (i := 476) (by decide +kernel)), .inl rfl⟩ (by decide +kernel) rfl : e_Sn 57 105 (o_getf (e_f1 11 6) 108)) t_57_108
noncomputable def n_57_104 : e_Y := u_ld f_okA f_l1 n_57_105
theorem t_57_104 : e_Sn 57 104 (e_un n_57_104) := u_ldAT f_l1_eq (s_aload (i := .aload_n 1) (len := 1) hq_57 (by decide +kernel) rfl (.inr ⟨1, rfl, rfl, rfl⟩) : e_Sn 57 104 (o_load e_okR 1 105)) t_57_105
noncomputable def n_57_103 : e_Y := u_ld f_okI f_l2 n_57_104
theorem t_57_103 : e_Sn 57 103 (e_un n_57_103) := u_ldIT f_l2_eq (s_iload (i := .iload_n 2) (len := 1) hq_57 (by decide +kernel) rfl (.inr ⟨2, rfl, rfl, rfl⟩) : e_Sn 57 103 (o_load e_okI 2 104)) t_57_104
noncomputable def n_57_100 : e_Y := u_getf 11 6 (u_old (o_getf (e_f1 11 6) 103) n_57_103) n_57_103
theorem t_57_100 : e_Sn 57 100 (e_un n_57_100) := u_getfT (s_getf (C := er_11) (T := et_11) (N := 15) (ref := "Plateroomprinter$World") (index := 40) (ci := 11) (k := 6) hq_57 ho_57 ⟨rfl, by decide, ei_11, (List.mem_of_getElem? (i := 476) (by decide +kernel)), .inl rfl⟩ (by decide +kernel) rfl : e_Sn 57 100 (o_getf (e_f1 11 6) 103)) t_57_103
noncomputable def n_57_99 : e_Y := u_ld f_okA f_l0 n_57_100
theorem t_57_99 : e_Sn 57 99 (e_un n_57_99) := u_ldAT f_l0_eq (s_aload (i := .aload_n 0) (len := 1) hq_57 (by decide +kernel) rfl (.inr ⟨0, rfl, rfl, rfl⟩) : e_Sn 57 99 (o_load e_okR 0 100)) t_57_100
noncomputable def n_57_96 : e_Y := u_callV 7 45 2 21 2 n_45_0 n_57_99
theorem t_57_96 : e_Sn 57 96 (e_un n_57_96) := u_callVT rfl (s_callV (ci := 7) (C := er_7) (T := et_7) (N := 6) (index := 105) hq_57 ho_57 hy_45 hp_45 hc_45 hi_45 hd_45 (List.mem_of_getElem? (i := 766) (by decide +kernel)) hs_45 (List.mem_of_getElem? (i := 758) (by decide +kernel)) rfl (by decide +kernel) rfl : e_Sn 57 96 (o_callV (e_s1 7 45 2) 2 99)) t_45_0 t_57_99
noncomputable def n_57_95 : e_Y := u_ald 4 (u_old (o_aldO 4 96) n_57_96) n_57_96
theorem t_57_95 : e_Sn 57 95 (e_un n_57_95) := u_aldOT (s_aald (tc := 1) rfl hq_57 (by decide +kernel) rfl : e_Sn 57 95 (o_aldO 4 96)) t_57_96
noncomputable def n_57_94 : e_Y := u_ld f_okI f_l2 n_57_95
theorem t_57_94 : e_Sn 57 94 (e_un n_57_94) := u_ldIT f_l2_eq (s_iload (i := .iload_n 2) (len := 1) hq_57 (by decide +kernel) rfl (.inr ⟨2, rfl, rfl, rfl⟩) : e_Sn 57 94 (o_load e_okI 2 95)) t_57_95
noncomputable def n_57_91 : e_Y := u_getf 11 5 (u_old (o_getf (e_f1 11 5) 94) n_57_94) n_57_94
theorem t_57_91 : e_Sn 57 91 (e_un n_57_91) := u_getfT (s_getf (C := er_11) (T := et_11) (N := 15) (ref := "Plateroomprinter$World") (index := 36) (ci := 11) (k := 5) hq_57 ho_57 ⟨rfl, by decide, ei_11, (List.mem_of_getElem? (i := 473) (by decide +kernel)), .inl rfl⟩ (by decide +kernel) rfl : e_Sn 57 91 (o_getf (e_f1 11 5) 94)) t_57_94
noncomputable def n_57_90 : e_Y := u_ld f_okA f_l1 n_57_91
theorem t_57_90 : e_Sn 57 90 (e_un n_57_90) := u_ldAT f_l1_eq (s_aload (i := .aload_n 1) (len := 1) hq_57 (by decide +kernel) rfl (.inr ⟨1, rfl, rfl, rfl⟩) : e_Sn 57 90 (o_load e_okR 1 91)) t_57_91
noncomputable def n_57_89 : e_Y := u_ald 4 (u_old (o_aldO 4 90) n_57_90) n_57_90
theorem t_57_89 : e_Sn 57 89 (e_un n_57_89) := u_aldOT (s_aald (tc := 1) rfl hq_57 (by decide +kernel) rfl : e_Sn 57 89 (o_aldO 4 90)) t_57_90
noncomputable def n_57_88 : e_Y := u_ld f_okI f_l2 n_57_89
theorem t_57_88 : e_Sn 57 88 (e_un n_57_88) := u_ldIT f_l2_eq (s_iload (i := .iload_n 2) (len := 1) hq_57 (by decide +kernel) rfl (.inr ⟨2, rfl, rfl, rfl⟩) : e_Sn 57 88 (o_load e_okI 2 89)) t_57_89
noncomputable def n_57_85 : e_Y := u_getf 11 5 (u_old (o_getf (e_f1 11 5) 88) n_57_88) n_57_88
theorem t_57_85 : e_Sn 57 85 (e_un n_57_85) := u_getfT (s_getf (C := er_11) (T := et_11) (N := 15) (ref := "Plateroomprinter$World") (index := 36) (ci := 11) (k := 5) hq_57 ho_57 ⟨rfl, by decide, ei_11, (List.mem_of_getElem? (i := 473) (by decide +kernel)), .inl rfl⟩ (by decide +kernel) rfl : e_Sn 57 85 (o_getf (e_f1 11 5) 88)) t_57_88
noncomputable def n_57_84 : e_Y := u_ld f_okA f_l0 n_57_85
theorem t_57_84 : e_Sn 57 84 (e_un n_57_84) := u_ldAT f_l0_eq (s_aload (i := .aload_n 0) (len := 1) hq_57 (by decide +kernel) rfl (.inr ⟨0, rfl, rfl, rfl⟩) : e_Sn 57 84 (o_load e_okR 0 85)) t_57_85
noncomputable def n_57_81 : e_Y := u_jmp y_ge (u_old2 (o_clt 84 117) 84 n_57_84 n_57_117) n_57_84 n_57_117
theorem t_57_81 : e_Sn 57 81 (e_un n_57_81) := u_cltT rfl (s_cge (off := (36)) hq_57 (by decide +kernel) rfl rfl : e_Sn 57 81 (o_clt 84 117)) t_57_84 t_57_117
noncomputable def n_57_80 : e_Y := u_push (.inl 2147483653) n_57_81
theorem t_57_80 : e_Sn 57 80 (e_un n_57_80) := u_pushT (s_iconst (n := (5)) hq_57 (by decide +kernel) rfl ⟨by decide +kernel, by decide +kernel⟩ : e_Sn 57 80 (o_push (.inl 2147483653) 81)) t_57_81
noncomputable def n_57_79 : e_Y := u_ld f_okI f_l2 n_57_80
theorem t_57_79 : e_Sn 57 79 (e_un n_57_79) := u_ldIT f_l2_eq (s_iload (i := .iload_n 2) (len := 1) hq_57 (by decide +kernel) rfl (.inr ⟨2, rfl, rfl, rfl⟩) : e_Sn 57 79 (o_load e_okI 2 80)) t_57_80
noncomputable def n_57_78 : e_Y := u_st f_okI f_s2 n_57_79
theorem t_57_78 : e_Sn 57 78 (e_un n_57_78) := u_stIT (fun _ _ _ => f_s2_eq) (s_istore (i := .istore_n 2) (len := 1) hq_57 (by decide +kernel) rfl (.inr ⟨2, rfl, rfl, rfl⟩) : e_Sn 57 78 (o_store e_okI 2 79)) t_57_79
noncomputable def n_57_77 : e_Y := u_push (.inl 2147483648) n_57_78
theorem t_57_77 : e_Sn 57 77 (e_un n_57_77) := u_pushT (s_iconst (n := (0)) hq_57 (by decide +kernel) rfl ⟨by decide +kernel, by decide +kernel⟩ : e_Sn 57 77 (o_push (.inl 2147483648) 78)) t_57_78
noncomputable def n_57_53 : e_Y := u_jmp y_ge (u_old2 (o_clt 56 77) 56 (u_at 56) n_57_77) (u_at 56) n_57_77
theorem t_57_53 : e_Sn 57 53 (e_un n_57_53) := u_cltT rfl (s_cge (off := (24)) hq_57 (by decide +kernel) rfl rfl : e_Sn 57 53 (o_clt 56 77)) u_atT t_57_77
noncomputable def n_57_50 : e_Y := u_getf 11 4 (u_old (o_getf (e_f1 11 4) 53) n_57_53) n_57_53
theorem t_57_50 : e_Sn 57 50 (e_un n_57_50) := u_getfT (s_getf (C := er_11) (T := et_11) (N := 15) (ref := "Plateroomprinter$World") (index := 71) (ci := 11) (k := 4) hq_57 ho_57 ⟨rfl, by decide, ei_11, (List.mem_of_getElem? (i := 470) (by decide +kernel)), .inl rfl⟩ (by decide +kernel) rfl : e_Sn 57 50 (o_getf (e_f1 11 4) 53)) t_57_53
noncomputable def n_57_49 : e_Y := u_ld f_okA f_l0 n_57_50
theorem t_57_49 : e_Sn 57 49 (e_un n_57_49) := u_ldAT f_l0_eq (s_aload (i := .aload_n 0) (len := 1) hq_57 (by decide +kernel) rfl (.inr ⟨0, rfl, rfl, rfl⟩) : e_Sn 57 49 (o_load e_okR 0 50)) t_57_50
noncomputable def n_57_48 : e_Y := u_ld f_okI f_l2 n_57_49
theorem t_57_48 : e_Sn 57 48 (e_un n_57_48) := u_ldIT f_l2_eq (s_iload (i := .iload_n 2) (len := 1) hq_57 (by decide +kernel) rfl (.inr ⟨2, rfl, rfl, rfl⟩) : e_Sn 57 48 (o_load e_okI 2 49)) t_57_49
noncomputable def n_57_47 : e_Y := u_st f_okI f_s2 n_57_48
theorem t_57_47 : e_Sn 57 47 (e_un n_57_47) := u_stIT (fun _ _ _ => f_s2_eq) (s_istore (i := .istore_n 2) (len := 1) hq_57 (by decide +kernel) rfl (.inr ⟨2, rfl, rfl, rfl⟩) : e_Sn 57 47 (o_store e_okI 2 48)) t_57_48
noncomputable def n_57_46 : e_Y := u_push (.inl 2147483648) n_57_47
theorem t_57_46 : e_Sn 57 46 (e_un n_57_46) := u_pushT (s_iconst (n := (0)) hq_57 (by decide +kernel) rfl ⟨by decide +kernel, by decide +kernel⟩ : e_Sn 57 46 (o_push (.inl 2147483648) 47)) t_57_47
noncomputable def n_57_43 : e_Y := u_old (o_putf (e_f1 11 4) e_okI 46) n_57_46
theorem t_57_43 : e_Sn 57 43 (e_un n_57_43) := u_oldT (s_putf (ty0 := ey_11) (ok := e_okI) (C := er_11) (T := et_11) (N := 15) (ref := "Plateroomprinter$World") (index := 71) (ci := 11) (k := 4) hq_57 ho_57 ⟨rfl, by decide, ei_11, (List.mem_of_getElem? (i := 470) (by decide +kernel)), .inl rfl⟩ eo_11 en_11 e_oksI (.inl rfl) (by decide +kernel) rfl : e_Sn 57 43 (o_putf (e_f1 11 4) e_okI 46)) t_57_46 (e_cg_putf (e_f1 11 4) e_okI)
noncomputable def n_57_40 : e_Y := u_tab (o_mmin 43)
theorem t_57_40 : e_Sn 57 40 (e_un n_57_40) := u_tabT (s_mmin (index := 99) hq_57 ho_57 (List.mem_of_getElem? (i := 765) (by decide +kernel)) (List.mem_of_getElem? (i := 425) (by decide +kernel)) (List.mem_of_getElem? (i := 142) (by decide +kernel)) (List.mem_of_getElem? (i := 426) (by decide +kernel)) (by decide +kernel) rfl : e_Sn 57 40 (o_mmin 43))
noncomputable def n_57_38 : e_Y := u_push (.inl 2147483656) n_57_40
theorem t_57_38 : e_Sn 57 38 (e_un n_57_38) := u_pushT (s_bipush (n := (8)) hq_57 (by decide +kernel) rfl ⟨by decide +kernel, by decide +kernel⟩ : e_Sn 57 38 (o_push (.inl 2147483656) 40)) t_57_40
noncomputable def n_57_35 : e_Y := u_getf 11 4 (u_old (o_getf (e_f1 11 4) 38) n_57_38) n_57_38
theorem t_57_35 : e_Sn 57 35 (e_un n_57_35) := u_getfT (s_getf (C := er_11) (T := et_11) (N := 15) (ref := "Plateroomprinter$World") (index := 71) (ci := 11) (k := 4) hq_57 ho_57 ⟨rfl, by decide, ei_11, (List.mem_of_getElem? (i := 470) (by decide +kernel)), .inl rfl⟩ (by decide +kernel) rfl : e_Sn 57 35 (o_getf (e_f1 11 4) 38)) t_57_38
noncomputable def n_57_34 : e_Y := u_ld f_okA f_l1 n_57_35
theorem t_57_34 : e_Sn 57 34 (e_un n_57_34) := u_ldAT f_l1_eq (s_aload (i := .aload_n 1) (len := 1) hq_57 (by decide +kernel) rfl (.inr ⟨1, rfl, rfl, rfl⟩) : e_Sn 57 34 (o_load e_okR 1 35)) t_57_35
noncomputable def n_57_33 : e_Y := u_ld f_okA f_l0 n_57_34
theorem t_57_33 : e_Sn 57 33 (e_un n_57_33) := u_ldAT f_l0_eq (s_aload (i := .aload_n 0) (len := 1) hq_57 (by decide +kernel) rfl (.inr ⟨0, rfl, rfl, rfl⟩) : e_Sn 57 33 (o_load e_okR 0 34)) t_57_34
noncomputable def n_57_30 : e_Y := u_callV 10 52 3 22 2 n_52_0 n_57_33
theorem t_57_30 : e_Sn 57 30 (e_un n_57_30) := u_callVT rfl (s_callV (ci := 10) (C := er_10) (T := et_10) (N := 11) (index := 96) hq_57 ho_57 hy_52 hp_52 hc_52 hi_52 hd_52 (List.mem_of_getElem? (i := 748) (by decide +kernel)) hs_52 (List.mem_of_getElem? (i := 750) (by decide +kernel)) rfl (by decide +kernel) rfl : e_Sn 57 30 (o_callV (e_s1 10 52 3) 2 33)) t_52_0 t_57_33
noncomputable def n_57_27 : e_Y := u_getf 11 2 (u_old (o_getf (e_f1 11 2) 30) n_57_30) n_57_30
theorem t_57_27 : e_Sn 57 27 (e_un n_57_27) := u_getfT (s_getf (C := er_11) (T := et_11) (N := 15) (ref := "Plateroomprinter$World") (index := 26) (ci := 11) (k := 2) hq_57 ho_57 ⟨rfl, by decide, ei_11, (List.mem_of_getElem? (i := 465) (by decide +kernel)), .inl rfl⟩ (by decide +kernel) rfl : e_Sn 57 27 (o_getf (e_f1 11 2) 30)) t_57_30
noncomputable def n_57_26 : e_Y := u_ld f_okA f_l1 n_57_27
theorem t_57_26 : e_Sn 57 26 (e_un n_57_26) := u_ldAT f_l1_eq (s_aload (i := .aload_n 1) (len := 1) hq_57 (by decide +kernel) rfl (.inr ⟨1, rfl, rfl, rfl⟩) : e_Sn 57 26 (o_load e_okR 1 27)) t_57_27
noncomputable def n_57_23 : e_Y := u_getf 11 2 (u_old (o_getf (e_f1 11 2) 26) n_57_26) n_57_26
theorem t_57_23 : e_Sn 57 23 (e_un n_57_23) := u_getfT (s_getf (C := er_11) (T := et_11) (N := 15) (ref := "Plateroomprinter$World") (index := 26) (ci := 11) (k := 2) hq_57 ho_57 ⟨rfl, by decide, ei_11, (List.mem_of_getElem? (i := 465) (by decide +kernel)), .inl rfl⟩ (by decide +kernel) rfl : e_Sn 57 23 (o_getf (e_f1 11 2) 26)) t_57_26
noncomputable def n_57_22 : e_Y := u_ld f_okA f_l0 n_57_23
theorem t_57_22 : e_Sn 57 22 (e_un n_57_22) := u_ldAT f_l0_eq (s_aload (i := .aload_n 0) (len := 1) hq_57 (by decide +kernel) rfl (.inr ⟨0, rfl, rfl, rfl⟩) : e_Sn 57 22 (o_load e_okR 0 23)) t_57_23
noncomputable def n_57_19 : e_Y := u_callV 4 30 4 23 2 n_30_0 n_57_22
theorem t_57_19 : e_Sn 57 19 (e_un n_57_19) := u_callVT rfl (s_callV (ci := 4) (C := er_4) (T := et_4) (N := 5) (index := 92) hq_57 ho_57 hy_30 hp_30 hc_30 hi_30 hd_30 (List.mem_of_getElem? (i := 744) (by decide +kernel)) hs_30 (List.mem_of_getElem? (i := 746) (by decide +kernel)) rfl (by decide +kernel) rfl : e_Sn 57 19 (o_callV (e_s1 4 30 4) 2 22)) t_30_0 t_57_22
noncomputable def n_57_16 : e_Y := u_getf 11 1 (u_old (o_getf (e_f1 11 1) 19) n_57_19) n_57_19
theorem t_57_16 : e_Sn 57 16 (e_un n_57_16) := u_getfT (s_getf (C := er_11) (T := et_11) (N := 15) (ref := "Plateroomprinter$World") (index := 20) (ci := 11) (k := 1) hq_57 ho_57 ⟨rfl, by decide, ei_11, (List.mem_of_getElem? (i := 462) (by decide +kernel)), .inl rfl⟩ (by decide +kernel) rfl : e_Sn 57 16 (o_getf (e_f1 11 1) 19)) t_57_19
noncomputable def n_57_15 : e_Y := u_ld f_okA f_l1 n_57_16
theorem t_57_15 : e_Sn 57 15 (e_un n_57_15) := u_ldAT f_l1_eq (s_aload (i := .aload_n 1) (len := 1) hq_57 (by decide +kernel) rfl (.inr ⟨1, rfl, rfl, rfl⟩) : e_Sn 57 15 (o_load e_okR 1 16)) t_57_16
noncomputable def n_57_12 : e_Y := u_getf 11 1 (u_old (o_getf (e_f1 11 1) 15) n_57_15) n_57_15
theorem t_57_12 : e_Sn 57 12 (e_un n_57_12) := u_getfT (s_getf (C := er_11) (T := et_11) (N := 15) (ref := "Plateroomprinter$World") (index := 20) (ci := 11) (k := 1) hq_57 ho_57 ⟨rfl, by decide, ei_11, (List.mem_of_getElem? (i := 462) (by decide +kernel)), .inl rfl⟩ (by decide +kernel) rfl : e_Sn 57 12 (o_getf (e_f1 11 1) 15)) t_57_15
noncomputable def n_57_11 : e_Y := u_ld f_okA f_l0 n_57_12
theorem t_57_11 : e_Sn 57 11 (e_un n_57_11) := u_ldAT f_l0_eq (s_aload (i := .aload_n 0) (len := 1) hq_57 (by decide +kernel) rfl (.inr ⟨0, rfl, rfl, rfl⟩) : e_Sn 57 11 (o_load e_okR 0 12)) t_57_12
noncomputable def n_57_8 : e_Y := u_callV 4 30 4 23 2 n_30_0 n_57_11
theorem t_57_8 : e_Sn 57 8 (e_un n_57_8) := u_callVT rfl (s_callV (ci := 4) (C := er_4) (T := et_4) (N := 5) (index := 92) hq_57 ho_57 hy_30 hp_30 hc_30 hi_30 hd_30 (List.mem_of_getElem? (i := 744) (by decide +kernel)) hs_30 (List.mem_of_getElem? (i := 746) (by decide +kernel)) rfl (by decide +kernel) rfl : e_Sn 57 8 (o_callV (e_s1 4 30 4) 2 11)) t_30_0 t_57_11
noncomputable def n_57_5 : e_Y := u_getf 11 0 (u_old (o_getf (e_f1 11 0) 8) n_57_8) n_57_8
theorem t_57_5 : e_Sn 57 5 (e_un n_57_5) := u_getfT (s_getf (C := er_11) (T := et_11) (N := 15) (ref := "Plateroomprinter$World") (index := 14) (ci := 11) (k := 0) hq_57 ho_57 ⟨rfl, by decide, ei_11, (List.mem_of_getElem? (i := 459) (by decide +kernel)), .inl rfl⟩ (by decide +kernel) rfl : e_Sn 57 5 (o_getf (e_f1 11 0) 8)) t_57_8
noncomputable def n_57_4 : e_Y := u_ld f_okA f_l1 n_57_5
theorem t_57_4 : e_Sn 57 4 (e_un n_57_4) := u_ldAT f_l1_eq (s_aload (i := .aload_n 1) (len := 1) hq_57 (by decide +kernel) rfl (.inr ⟨1, rfl, rfl, rfl⟩) : e_Sn 57 4 (o_load e_okR 1 5)) t_57_5
noncomputable def n_57_1 : e_Y := u_getf 11 0 (u_old (o_getf (e_f1 11 0) 4) n_57_4) n_57_4
theorem t_57_1 : e_Sn 57 1 (e_un n_57_1) := u_getfT (s_getf (C := er_11) (T := et_11) (N := 15) (ref := "Plateroomprinter$World") (index := 14) (ci := 11) (k := 0) hq_57 ho_57 ⟨rfl, by decide, ei_11, (List.mem_of_getElem? (i := 459) (by decide +kernel)), .inl rfl⟩ (by decide +kernel) rfl : e_Sn 57 1 (o_getf (e_f1 11 0) 4)) t_57_4
noncomputable def n_57_0 : e_Y := u_ld f_okA f_l0 n_57_1
theorem t_57_0 : e_Sn 57 0 (e_un n_57_0) := u_ldAT f_l0_eq (s_aload (i := .aload_n 0) (len := 1) hq_57 (by decide +kernel) rfl (.inr ⟨0, rfl, rfl, rfl⟩) : e_Sn 57 0 (o_load e_okR 0 1)) t_57_1
noncomputable def e_tb_57 : e_X := (e_br 79 (e_br 43 (e_lf 0 (e_un n_57_0)) (e_lf 43 (e_un n_57_43))) (e_br 160 (e_lf 79 (e_un n_57_79)) (e_lf 160 (e_un n_57_160))))
theorem e_tk_57 : e_Tb 57 e_tb_57 := (e_brT (e_brT (e_lfT t_57_0) (e_lfT t_57_43)) (e_brT (e_lfT t_57_79) (e_lfT t_57_160)))
theorem hq_3 : (e_ml[3]?).map (·.2.1) = some prog_1_method_6_code := rfl
theorem ho_3 : (e_ml[3]?).map (·.1.cls) = some "Plateroomprinter" := rfl
theorem hr_3 : (e_ml[3]?).map (·.2.2.2) = some (some .int) := rfl
noncomputable def n_3_190 : e_Y := u_retI
theorem t_3_190 : e_Sn 3 190 (e_un n_3_190) := u_retIT (s_iret hq_3 hr_3 (by decide +kernel) : e_Sn 3 190 (o_ret e_okI))
noncomputable def n_3_187 : e_Y := u_getf 0 14 (u_old (o_getf (e_f1 0 14) 190) n_3_190) n_3_190
theorem t_3_187 : e_Sn 3 187 (e_un n_3_187) := u_getfT (s_getf (C := er_0) (T := et_0) (N := 17) (ref := "Plateroomprinter") (index := 81) (ci := 0) (k := 14) hq_3 ho_3 ⟨rfl, by decide, ei_0, (List.mem_of_getElem? (i := 694) (by decide +kernel)), .inl rfl⟩ (by decide +kernel) rfl : e_Sn 3 187 (o_getf (e_f1 0 14) 190)) t_3_190
noncomputable def n_3_186 : e_Y := u_ld f_okA f_l0 n_3_187
theorem t_3_186 : e_Sn 3 186 (e_un n_3_186) := u_ldAT f_l0_eq (s_aload (i := .aload_n 0) (len := 1) hq_3 (by decide +kernel) rfl (.inr ⟨0, rfl, rfl, rfl⟩) : e_Sn 3 186 (o_load e_okR 0 187)) t_3_187
noncomputable def n_3_183 : e_Y := u_callV 0 4 4 23 4 n_4_0 n_3_186
theorem t_3_183 : e_Sn 3 183 (e_un n_3_183) := u_callVT rfl (s_callV (ci := 0) (C := er_0) (T := et_0) (N := 17) (index := 159) hq_3 ho_3 hy_4 hp_4 hc_4 hi_4 hd_4 (List.mem_of_getElem? (i := 1225) (by decide +kernel)) hs_4 (List.mem_of_getElem? (i := 52) (by decide +kernel)) rfl (by decide +kernel) rfl : e_Sn 3 183 (o_callV (e_s1 0 4 4) 4 186)) t_4_0 t_3_186
noncomputable def n_3_182 : e_Y := u_push (.inl 2147483647) n_3_183
theorem t_3_182 : e_Sn 3 182 (e_un n_3_182) := u_pushT (s_iconst (n := (-1)) hq_3 (by decide +kernel) rfl ⟨by decide +kernel, by decide +kernel⟩ : e_Sn 3 182 (o_push (.inl 2147483647) 183)) t_3_183
noncomputable def n_3_181 : e_Y := u_push (.inl 2147483647) n_3_182
theorem t_3_181 : e_Sn 3 181 (e_un n_3_181) := u_pushT (s_iconst (n := (-1)) hq_3 (by decide +kernel) rfl ⟨by decide +kernel, by decide +kernel⟩ : e_Sn 3 181 (o_push (.inl 2147483647) 182)) t_3_182
noncomputable def n_3_180 : e_Y := u_push (.inl 2147483648) n_3_181
theorem t_3_180 : e_Sn 3 180 (e_un n_3_180) := u_pushT (s_iconst (n := (0)) hq_3 (by decide +kernel) rfl ⟨by decide +kernel, by decide +kernel⟩ : e_Sn 3 180 (o_push (.inl 2147483648) 181)) t_3_181
noncomputable def n_3_179 : e_Y := u_ld f_okA f_l0 n_3_180
theorem t_3_179 : e_Sn 3 179 (e_un n_3_179) := u_ldAT f_l0_eq (s_aload (i := .aload_n 0) (len := 1) hq_3 (by decide +kernel) rfl (.inr ⟨0, rfl, rfl, rfl⟩) : e_Sn 3 179 (o_load e_okR 0 180)) t_3_180
noncomputable def n_3_176 : e_Y := u_callV 1 11 1 20 1 n_11_0 n_3_179
theorem t_3_176 : e_Sn 3 176 (e_un n_3_176) := u_callVT rfl (s_callV (ci := 1) (C := er_1) (T := et_1) (N := 4) (index := 166) hq_3 ho_3 hy_11 hp_11 hc_11 hi_11 hd_11 (List.mem_of_getElem? (i := 1233) (by decide +kernel)) hs_11 (List.mem_of_getElem? (i := 1235) (by decide +kernel)) rfl (by decide +kernel) rfl : e_Sn 3 176 (o_callV (e_s1 1 11 1) 1 179)) t_11_0 t_3_179
noncomputable def n_3_173 : e_Y := u_getf 0 0 (u_old (o_getf (e_f1 0 0) 176) n_3_176) n_3_176
theorem t_3_173 : e_Sn 3 173 (e_un n_3_173) := u_getfT (s_getf (C := er_0) (T := et_0) (N := 17) (ref := "Plateroomprinter") (index := 10) (ci := 0) (k := 0) hq_3 ho_3 ⟨rfl, by decide, ei_0, (List.mem_of_getElem? (i := 680) (by decide +kernel)), .inl rfl⟩ (by decide +kernel) rfl : e_Sn 3 173 (o_getf (e_f1 0 0) 176)) t_3_176
noncomputable def n_3_172 : e_Y := u_ld f_okA f_l0 n_3_173
theorem t_3_172 : e_Sn 3 172 (e_un n_3_172) := u_ldAT f_l0_eq (s_aload (i := .aload_n 0) (len := 1) hq_3 (by decide +kernel) rfl (.inr ⟨0, rfl, rfl, rfl⟩) : e_Sn 3 172 (o_load e_okR 0 173)) t_3_173
noncomputable def n_3_169 : e_Y := u_callV 2 24 1 20 1 n_24_0 n_3_172
theorem t_3_169 : e_Sn 3 169 (e_un n_3_169) := u_callVT rfl (s_callV (ci := 2) (C := er_2) (T := et_2) (N := 19) (index := 163) hq_3 ho_3 hy_24 hp_24 hc_24 hi_24 hd_24 (List.mem_of_getElem? (i := 1229) (by decide +kernel)) hs_24 (List.mem_of_getElem? (i := 1231) (by decide +kernel)) rfl (by decide +kernel) rfl : e_Sn 3 169 (o_callV (e_s1 2 24 1) 1 172)) t_24_0 t_3_172
noncomputable def n_3_166 : e_Y := u_getf 0 5 (u_old (o_getf (e_f1 0 5) 169) n_3_169) n_3_169
theorem t_3_166 : e_Sn 3 166 (e_un n_3_166) := u_getfT (s_getf (C := er_0) (T := et_0) (N := 17) (ref := "Plateroomprinter") (index := 47) (ci := 0) (k := 5) hq_3 ho_3 ⟨rfl, by decide, ei_0, (List.mem_of_getElem? (i := 685) (by decide +kernel)), .inl rfl⟩ (by decide +kernel) rfl : e_Sn 3 166 (o_getf (e_f1 0 5) 169)) t_3_169
noncomputable def n_3_165 : e_Y := u_ld f_okA f_l0 n_3_166
theorem t_3_165 : e_Sn 3 165 (e_un n_3_165) := u_ldAT f_l0_eq (s_aload (i := .aload_n 0) (len := 1) hq_3 (by decide +kernel) rfl (.inr ⟨0, rfl, rfl, rfl⟩) : e_Sn 3 165 (o_load e_okR 0 166)) t_3_166
noncomputable def n_3_129 : e_Y := u_if y_le0 (u_old2 (o_ifgt 132 165) 132 (u_at 132) n_3_165) (u_at 132) n_3_165
theorem t_3_129 : e_Sn 3 129 (e_un n_3_129) := u_ifgtT rfl (s_ifle (off := (36)) hq_3 (by decide +kernel) rfl rfl : e_Sn 3 129 (o_ifgt 132 165)) u_atT t_3_165
noncomputable def n_3_128 : e_Y := u_ld f_okI f_l1 n_3_129
theorem t_3_128 : e_Sn 3 128 (e_un n_3_128) := u_ldIT f_l1_eq (s_iload (i := .iload_n 1) (len := 1) hq_3 (by decide +kernel) rfl (.inr ⟨1, rfl, rfl, rfl⟩) : e_Sn 3 128 (o_load e_okI 1 129)) t_3_129
noncomputable def n_3_125 : e_Y := (u_at 36)
theorem t_3_125 : e_Sn 3 125 (e_un n_3_125) := u_gotoT (s_goto (off := (-89)) hq_3 (by decide +kernel) rfl : e_Sn 3 125 (o_goto 36)) u_atT
noncomputable def n_3_122 : e_Y := u_inc f_l2 f_s2 1 n_3_125
theorem t_3_122 : e_Sn 3 122 (e_un n_3_122) := u_incT f_l2_eq (fun _ _ _ => f_s2_eq) (s_iinc (zz := (1)) hq_3 (by decide +kernel) rfl (by decide +kernel) ⟨by decide, by decide⟩ : e_Sn 3 122 (o_iinc 2 1 125)) t_3_125
noncomputable def n_3_121 : e_Y := u_st f_okI f_s1 n_3_122
theorem t_3_121 : e_Sn 3 121 (e_un n_3_121) := u_stIT (fun _ _ _ => f_s1_eq) (s_istore (i := .istore_n 1) (len := 1) hq_3 (by decide +kernel) rfl (.inr ⟨1, rfl, rfl, rfl⟩) : e_Sn 3 121 (o_store e_okI 1 122)) t_3_122
noncomputable def n_3_118 : e_Y := u_callV 2 20 4 23 1 n_20_0 n_3_121
theorem t_3_118 : e_Sn 3 118 (e_un n_3_118) := u_callVT rfl (s_callV (ci := 2) (C := er_2) (T := et_2) (N := 19) (index := 133) hq_3 ho_3 hy_20 hp_20 hc_20 hi_20 hd_20 (List.mem_of_getElem? (i := 788) (by decide +kernel)) hs_20 (List.mem_of_getElem? (i := 790) (by decide +kernel)) rfl (by decide +kernel) rfl : e_Sn 3 118 (o_callV (e_s1 2 20 4) 1 121)) t_20_0 t_3_121
noncomputable def n_3_115 : e_Y := u_getf 0 5 (u_old (o_getf (e_f1 0 5) 118) n_3_118) n_3_118
theorem t_3_115 : e_Sn 3 115 (e_un n_3_115) := u_getfT (s_getf (C := er_0) (T := et_0) (N := 17) (ref := "Plateroomprinter") (index := 47) (ci := 0) (k := 5) hq_3 ho_3 ⟨rfl, by decide, ei_0, (List.mem_of_getElem? (i := 685) (by decide +kernel)), .inl rfl⟩ (by decide +kernel) rfl : e_Sn 3 115 (o_getf (e_f1 0 5) 118)) t_3_118
noncomputable def n_3_114 : e_Y := u_ld f_okA f_l0 n_3_115
theorem t_3_114 : e_Sn 3 114 (e_un n_3_114) := u_ldAT f_l0_eq (s_aload (i := .aload_n 0) (len := 1) hq_3 (by decide +kernel) rfl (.inr ⟨0, rfl, rfl, rfl⟩) : e_Sn 3 114 (o_load e_okR 0 115)) t_3_115
noncomputable def n_3_111 : e_Y := u_if y_ne0 (u_old2 (o_ifeq 114 122) 114 n_3_114 n_3_122) n_3_114 n_3_122
theorem t_3_111 : e_Sn 3 111 (e_un n_3_111) := u_ifeqT rfl (s_ifne (off := (11)) hq_3 (by decide +kernel) rfl rfl : e_Sn 3 111 (o_ifeq 114 122)) t_3_114 t_3_122
noncomputable def n_3_110 : e_Y := u_ld f_okI f_l1 n_3_111
theorem t_3_110 : e_Sn 3 110 (e_un n_3_110) := u_ldIT f_l1_eq (s_iload (i := .iload_n 1) (len := 1) hq_3 (by decide +kernel) rfl (.inr ⟨1, rfl, rfl, rfl⟩) : e_Sn 3 110 (o_load e_okI 1 111)) t_3_111
noncomputable def n_3_109 : e_Y := u_st f_okI f_s1 n_3_110
theorem t_3_109 : e_Sn 3 109 (e_un n_3_109) := u_stIT (fun _ _ _ => f_s1_eq) (s_istore (i := .istore_n 1) (len := 1) hq_3 (by decide +kernel) rfl (.inr ⟨1, rfl, rfl, rfl⟩) : e_Sn 3 109 (o_store e_okI 1 110)) t_3_110
noncomputable def n_3_106 : e_Y := u_callV 2 25 2 21 2 n_25_0 n_3_109
theorem t_3_106 : e_Sn 3 106 (e_un n_3_106) := u_callVT rfl (s_callV (ci := 2) (C := er_2) (T := et_2) (N := 19) (index := 150) hq_3 ho_3 hy_25 hp_25 hc_25 hi_25 hd_25 (List.mem_of_getElem? (i := 1221) (by decide +kernel)) hs_25 (List.mem_of_getElem? (i := 1223) (by decide +kernel)) rfl (by decide +kernel) rfl : e_Sn 3 106 (o_callV (e_s1 2 25 2) 2 109)) t_25_0 t_3_109
noncomputable def n_3_103 : e_Y := u_callV 6 42 2 21 1 n_42_0 n_3_106
theorem t_3_103 : e_Sn 3 103 (e_un n_3_103) := u_callVT rfl (s_callV (ci := 6) (C := er_6) (T := et_6) (N := 17) (index := 126) hq_3 ho_3 hy_42 hp_42 hc_42 hi_42 hd_42 (List.mem_of_getElem? (i := 776) (by decide +kernel)) hs_42 (List.mem_of_getElem? (i := 778) (by decide +kernel)) rfl (by decide +kernel) rfl : e_Sn 3 103 (o_callV (e_s1 6 42 2) 1 106)) t_42_0 t_3_106
noncomputable def n_3_100 : e_Y := u_getf 0 4 (u_old (o_getf (e_f1 0 4) 103) n_3_103) n_3_103
theorem t_3_100 : e_Sn 3 100 (e_un n_3_100) := u_getfT (s_getf (C := er_0) (T := et_0) (N := 17) (ref := "Plateroomprinter") (index := 38) (ci := 0) (k := 4) hq_3 ho_3 ⟨rfl, by decide, ei_0, (List.mem_of_getElem? (i := 684) (by decide +kernel)), .inl rfl⟩ (by decide +kernel) rfl : e_Sn 3 100 (o_getf (e_f1 0 4) 103)) t_3_103
noncomputable def n_3_99 : e_Y := u_ld f_okA f_l0 n_3_100
theorem t_3_99 : e_Sn 3 99 (e_un n_3_99) := u_ldAT f_l0_eq (s_aload (i := .aload_n 0) (len := 1) hq_3 (by decide +kernel) rfl (.inr ⟨0, rfl, rfl, rfl⟩) : e_Sn 3 99 (o_load e_okR 0 100)) t_3_100
noncomputable def n_3_96 : e_Y := u_getf 0 5 (u_old (o_getf (e_f1 0 5) 99) n_3_99) n_3_99
theorem t_3_96 : e_Sn 3 96 (e_un n_3_96) := u_getfT (s_getf (C := er_0) (T := et_0) (N := 17) (ref := "Plateroomprinter") (index := 47) (ci := 0) (k := 5) hq_3 ho_3 ⟨rfl, by decide, ei_0, (List.mem_of_getElem? (i := 685) (by decide +kernel)), .inl rfl⟩ (by decide +kernel) rfl : e_Sn 3 96 (o_getf (e_f1 0 5) 99)) t_3_99
noncomputable def n_3_95 : e_Y := u_ld f_okA f_l0 n_3_96
theorem t_3_95 : e_Sn 3 95 (e_un n_3_95) := u_ldAT f_l0_eq (s_aload (i := .aload_n 0) (len := 1) hq_3 (by decide +kernel) rfl (.inr ⟨0, rfl, rfl, rfl⟩) : e_Sn 3 95 (o_load e_okR 0 96)) t_3_96
noncomputable def n_3_92 : e_Y := u_if y_ne0 (u_old2 (o_ifeq 95 110) 95 n_3_95 n_3_110) n_3_95 n_3_110
theorem t_3_92 : e_Sn 3 92 (e_un n_3_92) := u_ifeqT rfl (s_ifne (off := (18)) hq_3 (by decide +kernel) rfl rfl : e_Sn 3 92 (o_ifeq 95 110)) t_3_95 t_3_110
noncomputable def n_3_91 : e_Y := u_ld f_okI f_l1 n_3_92
theorem t_3_91 : e_Sn 3 91 (e_un n_3_91) := u_ldIT f_l1_eq (s_iload (i := .iload_n 1) (len := 1) hq_3 (by decide +kernel) rfl (.inr ⟨1, rfl, rfl, rfl⟩) : e_Sn 3 91 (o_load e_okI 1 92)) t_3_92
noncomputable def n_3_90 : e_Y := u_st f_okI f_s1 n_3_91
theorem t_3_90 : e_Sn 3 90 (e_un n_3_90) := u_stIT (fun _ _ _ => f_s1_eq) (s_istore (i := .istore_n 1) (len := 1) hq_3 (by decide +kernel) rfl (.inr ⟨1, rfl, rfl, rfl⟩) : e_Sn 3 90 (o_store e_okI 1 91)) t_3_91
noncomputable def n_3_87 : e_Y := u_callV 6 40 3 22 3 n_40_0 n_3_90
theorem t_3_87 : e_Sn 3 87 (e_un n_3_87) := u_callVT rfl (s_callV (ci := 6) (C := er_6) (T := et_6) (N := 17) (index := 146) hq_3 ho_3 hy_40 hp_40 hc_40 hi_40 hd_40 (List.mem_of_getElem? (i := 890) (by decide +kernel)) hs_40 (List.mem_of_getElem? (i := 892) (by decide +kernel)) rfl (by decide +kernel) rfl : e_Sn 3 87 (o_callV (e_s1 6 40 3) 3 90)) t_40_0 t_3_90
noncomputable def n_3_84 : e_Y := u_getf 2 3 (u_old (o_getf (e_f1 2 3) 87) n_3_87) n_3_87
theorem t_3_84 : e_Sn 3 84 (e_un n_3_84) := u_getfT (s_getf (C := er_2) (T := et_2) (N := 19) (ref := "Plateroomprinter$Engine") (index := 143) (ci := 2) (k := 3) hq_3 ho_3 ⟨rfl, by decide, ei_2, (List.mem_of_getElem? (i := 620) (by decide +kernel)), .inl rfl⟩ (by decide +kernel) rfl : e_Sn 3 84 (o_getf (e_f1 2 3) 87)) t_3_87
noncomputable def n_3_81 : e_Y := u_getf 0 5 (u_old (o_getf (e_f1 0 5) 84) n_3_84) n_3_84
theorem t_3_81 : e_Sn 3 81 (e_un n_3_81) := u_getfT (s_getf (C := er_0) (T := et_0) (N := 17) (ref := "Plateroomprinter") (index := 47) (ci := 0) (k := 5) hq_3 ho_3 ⟨rfl, by decide, ei_0, (List.mem_of_getElem? (i := 685) (by decide +kernel)), .inl rfl⟩ (by decide +kernel) rfl : e_Sn 3 81 (o_getf (e_f1 0 5) 84)) t_3_84
noncomputable def n_3_80 : e_Y := u_ld f_okA f_l0 n_3_81
theorem t_3_80 : e_Sn 3 80 (e_un n_3_80) := u_ldAT f_l0_eq (s_aload (i := .aload_n 0) (len := 1) hq_3 (by decide +kernel) rfl (.inr ⟨0, rfl, rfl, rfl⟩) : e_Sn 3 80 (o_load e_okR 0 81)) t_3_81
noncomputable def n_3_77 : e_Y := u_getf 2 16 (u_old (o_getf (e_f1 2 16) 80) n_3_80) n_3_80
theorem t_3_77 : e_Sn 3 77 (e_un n_3_77) := u_getfT (s_getf (C := er_2) (T := et_2) (N := 19) (ref := "Plateroomprinter$Engine") (index := 140) (ci := 2) (k := 16) hq_3 ho_3 ⟨rfl, by decide, ei_2, (List.mem_of_getElem? (i := 633) (by decide +kernel)), .inl rfl⟩ (by decide +kernel) rfl : e_Sn 3 77 (o_getf (e_f1 2 16) 80)) t_3_80
noncomputable def n_3_74 : e_Y := u_getf 0 5 (u_old (o_getf (e_f1 0 5) 77) n_3_77) n_3_77
theorem t_3_74 : e_Sn 3 74 (e_un n_3_74) := u_getfT (s_getf (C := er_0) (T := et_0) (N := 17) (ref := "Plateroomprinter") (index := 47) (ci := 0) (k := 5) hq_3 ho_3 ⟨rfl, by decide, ei_0, (List.mem_of_getElem? (i := 685) (by decide +kernel)), .inl rfl⟩ (by decide +kernel) rfl : e_Sn 3 74 (o_getf (e_f1 0 5) 77)) t_3_77
noncomputable def n_3_73 : e_Y := u_ld f_okA f_l0 n_3_74
theorem t_3_73 : e_Sn 3 73 (e_un n_3_73) := u_ldAT f_l0_eq (s_aload (i := .aload_n 0) (len := 1) hq_3 (by decide +kernel) rfl (.inr ⟨0, rfl, rfl, rfl⟩) : e_Sn 3 73 (o_load e_okR 0 74)) t_3_74
noncomputable def n_3_70 : e_Y := u_getf 0 4 (u_old (o_getf (e_f1 0 4) 73) n_3_73) n_3_73
theorem t_3_70 : e_Sn 3 70 (e_un n_3_70) := u_getfT (s_getf (C := er_0) (T := et_0) (N := 17) (ref := "Plateroomprinter") (index := 38) (ci := 0) (k := 4) hq_3 ho_3 ⟨rfl, by decide, ei_0, (List.mem_of_getElem? (i := 684) (by decide +kernel)), .inl rfl⟩ (by decide +kernel) rfl : e_Sn 3 70 (o_getf (e_f1 0 4) 73)) t_3_73
noncomputable def n_3_69 : e_Y := u_ld f_okA f_l0 n_3_70
theorem t_3_69 : e_Sn 3 69 (e_un n_3_69) := u_ldAT f_l0_eq (s_aload (i := .aload_n 0) (len := 1) hq_3 (by decide +kernel) rfl (.inr ⟨0, rfl, rfl, rfl⟩) : e_Sn 3 69 (o_load e_okR 0 70)) t_3_70
noncomputable def n_3_66 : e_Y := u_jmp y_ne (u_old2 (o_ceq 91 69) 91 n_3_91 n_3_69) n_3_91 n_3_69
theorem t_3_66 : e_Sn 3 66 (e_un n_3_66) := u_ceqT rfl (s_ceq (off := (25)) hq_3 (by decide +kernel) rfl rfl : e_Sn 3 66 (o_ceq 91 69)) t_3_91 t_3_69
noncomputable def n_3_65 : e_Y := u_push (.inl 2147483647) n_3_66
theorem t_3_65 : e_Sn 3 65 (e_un n_3_65) := u_pushT (s_iconst (n := (-1)) hq_3 (by decide +kernel) rfl ⟨by decide +kernel, by decide +kernel⟩ : e_Sn 3 65 (o_push (.inl 2147483647) 66)) t_3_66
noncomputable def n_3_62 : e_Y := u_getf 2 16 (u_old (o_getf (e_f1 2 16) 65) n_3_65) n_3_65
theorem t_3_62 : e_Sn 3 62 (e_un n_3_62) := u_getfT (s_getf (C := er_2) (T := et_2) (N := 19) (ref := "Plateroomprinter$Engine") (index := 140) (ci := 2) (k := 16) hq_3 ho_3 ⟨rfl, by decide, ei_2, (List.mem_of_getElem? (i := 633) (by decide +kernel)), .inl rfl⟩ (by decide +kernel) rfl : e_Sn 3 62 (o_getf (e_f1 2 16) 65)) t_3_65
noncomputable def n_3_59 : e_Y := u_getf 0 5 (u_old (o_getf (e_f1 0 5) 62) n_3_62) n_3_62
theorem t_3_59 : e_Sn 3 59 (e_un n_3_59) := u_getfT (s_getf (C := er_0) (T := et_0) (N := 17) (ref := "Plateroomprinter") (index := 47) (ci := 0) (k := 5) hq_3 ho_3 ⟨rfl, by decide, ei_0, (List.mem_of_getElem? (i := 685) (by decide +kernel)), .inl rfl⟩ (by decide +kernel) rfl : e_Sn 3 59 (o_getf (e_f1 0 5) 62)) t_3_62
noncomputable def n_3_58 : e_Y := u_ld f_okA f_l0 n_3_59
theorem t_3_58 : e_Sn 3 58 (e_un n_3_58) := u_ldAT f_l0_eq (s_aload (i := .aload_n 0) (len := 1) hq_3 (by decide +kernel) rfl (.inr ⟨0, rfl, rfl, rfl⟩) : e_Sn 3 58 (o_load e_okR 0 59)) t_3_59
noncomputable def n_3_55 : e_Y := u_if y_ne0 (u_old2 (o_ifeq 58 91) 58 n_3_58 n_3_91) n_3_58 n_3_91
theorem t_3_55 : e_Sn 3 55 (e_un n_3_55) := u_ifeqT rfl (s_ifne (off := (36)) hq_3 (by decide +kernel) rfl rfl : e_Sn 3 55 (o_ifeq 58 91)) t_3_58 t_3_91
noncomputable def n_3_54 : e_Y := u_ld f_okI f_l1 n_3_55
theorem t_3_54 : e_Sn 3 54 (e_un n_3_54) := u_ldIT f_l1_eq (s_iload (i := .iload_n 1) (len := 1) hq_3 (by decide +kernel) rfl (.inr ⟨1, rfl, rfl, rfl⟩) : e_Sn 3 54 (o_load e_okI 1 55)) t_3_55
noncomputable def n_3_53 : e_Y := u_st f_okI f_s1 n_3_54
theorem t_3_53 : e_Sn 3 53 (e_un n_3_53) := u_stIT (fun _ _ _ => f_s1_eq) (s_istore (i := .istore_n 1) (len := 1) hq_3 (by decide +kernel) rfl (.inr ⟨1, rfl, rfl, rfl⟩) : e_Sn 3 53 (o_store e_okI 1 54)) t_3_54
noncomputable def n_3_50 : e_Y := u_callV 2 22 3 22 1 n_22_0 n_3_53
theorem t_3_50 : e_Sn 3 50 (e_un n_3_50) := u_callVT rfl (s_callV (ci := 2) (C := er_2) (T := et_2) (N := 19) (index := 137) hq_3 ho_3 hy_22 hp_22 hc_22 hi_22 hd_22 (List.mem_of_getElem? (i := 812) (by decide +kernel)) hs_22 (List.mem_of_getElem? (i := 814) (by decide +kernel)) rfl (by decide +kernel) rfl : e_Sn 3 50 (o_callV (e_s1 2 22 3) 1 53)) t_22_0 t_3_53
noncomputable def n_3_47 : e_Y := u_getf 0 5 (u_old (o_getf (e_f1 0 5) 50) n_3_50) n_3_50
theorem t_3_47 : e_Sn 3 47 (e_un n_3_47) := u_getfT (s_getf (C := er_0) (T := et_0) (N := 17) (ref := "Plateroomprinter") (index := 47) (ci := 0) (k := 5) hq_3 ho_3 ⟨rfl, by decide, ei_0, (List.mem_of_getElem? (i := 685) (by decide +kernel)), .inl rfl⟩ (by decide +kernel) rfl : e_Sn 3 47 (o_getf (e_f1 0 5) 50)) t_3_50
noncomputable def n_3_46 : e_Y := u_ld f_okA f_l0 n_3_47
theorem t_3_46 : e_Sn 3 46 (e_un n_3_46) := u_ldAT f_l0_eq (s_aload (i := .aload_n 0) (len := 1) hq_3 (by decide +kernel) rfl (.inr ⟨0, rfl, rfl, rfl⟩) : e_Sn 3 46 (o_load e_okR 0 47)) t_3_47
noncomputable def n_3_43 : e_Y := u_if y_ne0 (u_old2 (o_ifeq 46 128) 46 n_3_46 n_3_128) n_3_46 n_3_128
theorem t_3_43 : e_Sn 3 43 (e_un n_3_43) := u_ifeqT rfl (s_ifne (off := (85)) hq_3 (by decide +kernel) rfl rfl : e_Sn 3 43 (o_ifeq 46 128)) t_3_46 t_3_128
noncomputable def n_3_42 : e_Y := u_ld f_okI f_l1 n_3_43
theorem t_3_42 : e_Sn 3 42 (e_un n_3_42) := u_ldIT f_l1_eq (s_iload (i := .iload_n 1) (len := 1) hq_3 (by decide +kernel) rfl (.inr ⟨1, rfl, rfl, rfl⟩) : e_Sn 3 42 (o_load e_okI 1 43)) t_3_43
noncomputable def n_3_39 : e_Y := u_jmp y_ge (u_old2 (o_clt 42 128) 42 n_3_42 n_3_128) n_3_42 n_3_128
theorem t_3_39 : e_Sn 3 39 (e_un n_3_39) := u_cltT rfl (s_cge (off := (89)) hq_3 (by decide +kernel) rfl rfl : e_Sn 3 39 (o_clt 42 128)) t_3_42 t_3_128
noncomputable def n_3_37 : e_Y := u_push (e_I 2148483648) n_3_39
theorem t_3_37 : e_Sn 3 37 (e_un n_3_37) := u_pushT (s_ldc (index := 136) (v := (1000000)) hq_3 ho_3 (List.mem_of_getElem? (i := 811) (by decide +kernel)) (by decide +kernel) rfl ⟨by decide +kernel, by decide +kernel⟩ : e_Sn 3 37 (o_push (e_I 2148483648) 39)) t_3_39
noncomputable def n_3_36 : e_Y := u_ld f_okI f_l2 n_3_37
theorem t_3_36 : e_Sn 3 36 (e_un n_3_36) := u_ldIT f_l2_eq (s_iload (i := .iload_n 2) (len := 1) hq_3 (by decide +kernel) rfl (.inr ⟨2, rfl, rfl, rfl⟩) : e_Sn 3 36 (o_load e_okI 2 37)) t_3_37
noncomputable def n_3_35 : e_Y := u_st f_okI f_s2 n_3_36
theorem t_3_35 : e_Sn 3 35 (e_un n_3_35) := u_stIT (fun _ _ _ => f_s2_eq) (s_istore (i := .istore_n 2) (len := 1) hq_3 (by decide +kernel) rfl (.inr ⟨2, rfl, rfl, rfl⟩) : e_Sn 3 35 (o_store e_okI 2 36)) t_3_36
noncomputable def n_3_34 : e_Y := u_push (.inl 2147483648) n_3_35
theorem t_3_34 : e_Sn 3 34 (e_un n_3_34) := u_pushT (s_iconst (n := (0)) hq_3 (by decide +kernel) rfl ⟨by decide +kernel, by decide +kernel⟩ : e_Sn 3 34 (o_push (.inl 2147483648) 35)) t_3_35
noncomputable def n_3_33 : e_Y := u_st f_okI f_s1 n_3_34
theorem t_3_33 : e_Sn 3 33 (e_un n_3_33) := u_stIT (fun _ _ _ => f_s1_eq) (s_istore (i := .istore_n 1) (len := 1) hq_3 (by decide +kernel) rfl (.inr ⟨1, rfl, rfl, rfl⟩) : e_Sn 3 33 (o_store e_okI 1 34)) t_3_34
noncomputable def n_3_30 : e_Y := u_callV 2 20 4 23 1 n_20_0 n_3_33
theorem t_3_30 : e_Sn 3 30 (e_un n_3_30) := u_callVT rfl (s_callV (ci := 2) (C := er_2) (T := et_2) (N := 19) (index := 133) hq_3 ho_3 hy_20 hp_20 hc_20 hi_20 hd_20 (List.mem_of_getElem? (i := 788) (by decide +kernel)) hs_20 (List.mem_of_getElem? (i := 790) (by decide +kernel)) rfl (by decide +kernel) rfl : e_Sn 3 30 (o_callV (e_s1 2 20 4) 1 33)) t_20_0 t_3_33
noncomputable def n_3_27 : e_Y := u_getf 0 5 (u_old (o_getf (e_f1 0 5) 30) n_3_30) n_3_30
theorem t_3_27 : e_Sn 3 27 (e_un n_3_27) := u_getfT (s_getf (C := er_0) (T := et_0) (N := 17) (ref := "Plateroomprinter") (index := 47) (ci := 0) (k := 5) hq_3 ho_3 ⟨rfl, by decide, ei_0, (List.mem_of_getElem? (i := 685) (by decide +kernel)), .inl rfl⟩ (by decide +kernel) rfl : e_Sn 3 27 (o_getf (e_f1 0 5) 30)) t_3_30
noncomputable def n_3_26 : e_Y := u_ld f_okA f_l0 n_3_27
theorem t_3_26 : e_Sn 3 26 (e_un n_3_26) := u_ldAT f_l0_eq (s_aload (i := .aload_n 0) (len := 1) hq_3 (by decide +kernel) rfl (.inr ⟨0, rfl, rfl, rfl⟩) : e_Sn 3 26 (o_load e_okR 0 27)) t_3_27
noncomputable def n_3_23 : e_Y := u_callV 2 13 1 20 1 n_13_0 n_3_26
theorem t_3_23 : e_Sn 3 23 (e_un n_3_23) := u_callVT rfl (s_callV (ci := 2) (C := er_2) (T := et_2) (N := 19) (index := 130) hq_3 ho_3 hy_13 hp_13 hc_13 hi_13 hd_13 (List.mem_of_getElem? (i := 780) (by decide +kernel)) hs_13 (List.mem_of_getElem? (i := 782) (by decide +kernel)) rfl (by decide +kernel) rfl : e_Sn 3 23 (o_callV (e_s1 2 13 1) 1 26)) t_13_0 t_3_26
noncomputable def n_3_20 : e_Y := u_getf 0 5 (u_old (o_getf (e_f1 0 5) 23) n_3_23) n_3_23
theorem t_3_20 : e_Sn 3 20 (e_un n_3_20) := u_getfT (s_getf (C := er_0) (T := et_0) (N := 17) (ref := "Plateroomprinter") (index := 47) (ci := 0) (k := 5) hq_3 ho_3 ⟨rfl, by decide, ei_0, (List.mem_of_getElem? (i := 685) (by decide +kernel)), .inl rfl⟩ (by decide +kernel) rfl : e_Sn 3 20 (o_getf (e_f1 0 5) 23)) t_3_23
noncomputable def n_3_19 : e_Y := u_ld f_okA f_l0 n_3_20
theorem t_3_19 : e_Sn 3 19 (e_un n_3_19) := u_ldAT f_l0_eq (s_aload (i := .aload_n 0) (len := 1) hq_3 (by decide +kernel) rfl (.inr ⟨0, rfl, rfl, rfl⟩) : e_Sn 3 19 (o_load e_okR 0 20)) t_3_20
noncomputable def n_3_18 : e_Y := u_pop n_3_19
theorem t_3_18 : e_Sn 3 18 (e_un n_3_18) := u_popT (s_pop hq_3 (by decide +kernel) rfl : e_Sn 3 18 (o_pop 19)) t_3_19
noncomputable def n_3_15 : e_Y := u_callV 6 42 2 21 1 n_42_0 n_3_18
theorem t_3_15 : e_Sn 3 15 (e_un n_3_15) := u_callVT rfl (s_callV (ci := 6) (C := er_6) (T := et_6) (N := 17) (index := 126) hq_3 ho_3 hy_42 hp_42 hc_42 hi_42 hd_42 (List.mem_of_getElem? (i := 776) (by decide +kernel)) hs_42 (List.mem_of_getElem? (i := 778) (by decide +kernel)) rfl (by decide +kernel) rfl : e_Sn 3 15 (o_callV (e_s1 6 42 2) 1 18)) t_42_0 t_3_18
noncomputable def n_3_12 : e_Y := u_getf 0 4 (u_old (o_getf (e_f1 0 4) 15) n_3_15) n_3_15
theorem t_3_12 : e_Sn 3 12 (e_un n_3_12) := u_getfT (s_getf (C := er_0) (T := et_0) (N := 17) (ref := "Plateroomprinter") (index := 38) (ci := 0) (k := 4) hq_3 ho_3 ⟨rfl, by decide, ei_0, (List.mem_of_getElem? (i := 684) (by decide +kernel)), .inl rfl⟩ (by decide +kernel) rfl : e_Sn 3 12 (o_getf (e_f1 0 4) 15)) t_3_15
noncomputable def n_3_11 : e_Y := u_ld f_okA f_l0 n_3_12
theorem t_3_11 : e_Sn 3 11 (e_un n_3_11) := u_ldAT f_l0_eq (s_aload (i := .aload_n 0) (len := 1) hq_3 (by decide +kernel) rfl (.inr ⟨0, rfl, rfl, rfl⟩) : e_Sn 3 11 (o_load e_okR 0 12)) t_3_12
noncomputable def n_3_8 : e_Y := u_callV 11 57 3 22 2 n_57_0 n_3_11
theorem t_3_8 : e_Sn 3 8 (e_un n_3_8) := u_callVT rfl (s_callV (ci := 11) (C := er_11) (T := et_11) (N := 15) (index := 122) hq_3 ho_3 hy_57 hp_57 hc_57 hi_57 hd_57 (List.mem_of_getElem? (i := 740) (by decide +kernel)) hs_57 (List.mem_of_getElem? (i := 742) (by decide +kernel)) rfl (by decide +kernel) rfl : e_Sn 3 8 (o_callV (e_s1 11 57 3) 2 11)) t_57_0 t_3_11
noncomputable def n_3_5 : e_Y := u_getf 0 1 (u_old (o_getf (e_f1 0 1) 8) n_3_8) n_3_8
theorem t_3_5 : e_Sn 3 5 (e_un n_3_5) := u_getfT (s_getf (C := er_0) (T := et_0) (N := 17) (ref := "Plateroomprinter") (index := 19) (ci := 0) (k := 1) hq_3 ho_3 ⟨rfl, by decide, ei_0, (List.mem_of_getElem? (i := 681) (by decide +kernel)), .inl rfl⟩ (by decide +kernel) rfl : e_Sn 3 5 (o_getf (e_f1 0 1) 8)) t_3_8
noncomputable def n_3_4 : e_Y := u_ld f_okA f_l0 n_3_5
theorem t_3_4 : e_Sn 3 4 (e_un n_3_4) := u_ldAT f_l0_eq (s_aload (i := .aload_n 0) (len := 1) hq_3 (by decide +kernel) rfl (.inr ⟨0, rfl, rfl, rfl⟩) : e_Sn 3 4 (o_load e_okR 0 5)) t_3_5
noncomputable def n_3_1 : e_Y := u_getf 0 2 (u_old (o_getf (e_f1 0 2) 4) n_3_4) n_3_4
theorem t_3_1 : e_Sn 3 1 (e_un n_3_1) := u_getfT (s_getf (C := er_0) (T := et_0) (N := 17) (ref := "Plateroomprinter") (index := 23) (ci := 0) (k := 2) hq_3 ho_3 ⟨rfl, by decide, ei_0, (List.mem_of_getElem? (i := 682) (by decide +kernel)), .inl rfl⟩ (by decide +kernel) rfl : e_Sn 3 1 (o_getf (e_f1 0 2) 4)) t_3_4
noncomputable def n_3_0 : e_Y := u_ld f_okA f_l0 n_3_1
theorem t_3_0 : e_Sn 3 0 (e_un n_3_0) := u_ldAT f_l0_eq (s_aload (i := .aload_n 0) (len := 1) hq_3 (by decide +kernel) rfl (.inr ⟨0, rfl, rfl, rfl⟩) : e_Sn 3 0 (o_load e_okR 0 1)) t_3_1
noncomputable def e_tb_3 : e_X := (e_br 36 (e_lf 0 (e_un n_3_0)) (e_lf 36 (e_un n_3_36)))
theorem e_tk_3 : e_Tb 3 e_tb_3 := (e_brT (e_lfT t_3_0) (e_lfT t_3_36))
theorem hq_7 : (e_ml[7]?).map (·.2.1) = some prog_2_method_2_code := rfl
theorem ho_7 : (e_ml[7]?).map (·.1.cls) = some "Plateroomprinter$Code" := rfl
theorem hr_7 : (e_ml[7]?).map (·.2.2.2) = some none := rfl
noncomputable def n_7_45 : e_Y := u_tab (o_retv)
theorem t_7_45 : e_Sn 7 45 (e_un n_7_45) := u_tabT (s_vret hq_7 hr_7 (by decide +kernel) : e_Sn 7 45 (o_retv))
noncomputable def n_7_42 : e_Y := u_old (o_putf (e_f1 1 3) e_okI 45) n_7_45
theorem t_7_42 : e_Sn 7 42 (e_un n_7_42) := u_oldT (s_putf (ty0 := ey_1) (ok := e_okI) (C := er_1) (T := et_1) (N := 4) (ref := "Plateroomprinter$Code") (index := 22) (ci := 1) (k := 3) hq_7 ho_7 ⟨rfl, by decide, ei_1, (List.mem_of_getElem? (i := 203) (by decide +kernel)), .inl rfl⟩ eo_1 en_1 e_oksI (.inl rfl) (by decide +kernel) rfl : e_Sn 7 42 (o_putf (e_f1 1 3) e_okI 45)) t_7_45 (e_cg_putf (e_f1 1 3) e_okI)
noncomputable def n_7_41 : e_Y := u_bin a_iadd (u_old (o_iadd 42) n_7_42) n_7_42
theorem t_7_41 : e_Sn 7 41 (e_un n_7_41) := u_iaddT (s_iadd hq_7 (by decide +kernel) rfl : e_Sn 7 41 (o_iadd 42)) t_7_42
noncomputable def n_7_40 : e_Y := u_push (.inl 2147483649) n_7_41
theorem t_7_40 : e_Sn 7 40 (e_un n_7_40) := u_pushT (s_iconst (n := (1)) hq_7 (by decide +kernel) rfl ⟨by decide +kernel, by decide +kernel⟩ : e_Sn 7 40 (o_push (.inl 2147483649) 41)) t_7_41
noncomputable def n_7_37 : e_Y := u_getf 1 3 (u_old (o_getf (e_f1 1 3) 40) n_7_40) n_7_40
theorem t_7_37 : e_Sn 7 37 (e_un n_7_37) := u_getfT (s_getf (C := er_1) (T := et_1) (N := 4) (ref := "Plateroomprinter$Code") (index := 22) (ci := 1) (k := 3) hq_7 ho_7 ⟨rfl, by decide, ei_1, (List.mem_of_getElem? (i := 203) (by decide +kernel)), .inl rfl⟩ (by decide +kernel) rfl : e_Sn 7 37 (o_getf (e_f1 1 3) 40)) t_7_40
noncomputable def n_7_36 : e_Y := u_old (o_dup 37) n_7_37
theorem t_7_36 : e_Sn 7 36 (e_un n_7_36) := u_oldT (s_dup hq_7 (by decide +kernel) rfl : e_Sn 7 36 (o_dup 37)) t_7_37 e_cg_dup
noncomputable def n_7_35 : e_Y := u_ld f_okA f_l0 n_7_36
theorem t_7_35 : e_Sn 7 35 (e_un n_7_35) := u_ldAT f_l0_eq (s_aload (i := .aload_n 0) (len := 1) hq_7 (by decide +kernel) rfl (.inr ⟨0, rfl, rfl, rfl⟩) : e_Sn 7 35 (o_load e_okR 0 36)) t_7_36
noncomputable def n_7_34 : e_Y := u_old (o_ast 0 e_okI 35) n_7_35
theorem t_7_34 : e_Sn 7 34 (e_un n_7_34) := u_oldT (s_iast hq_7 (by decide +kernel) rfl : e_Sn 7 34 (o_ast 0 e_okI 35)) t_7_35 (e_cg_ast 0 e_okI)
noncomputable def n_7_33 : e_Y := u_ld f_okI f_l2 n_7_34
theorem t_7_33 : e_Sn 7 33 (e_un n_7_33) := u_ldIT f_l2_eq (s_iload (i := .iload_n 2) (len := 1) hq_7 (by decide +kernel) rfl (.inr ⟨2, rfl, rfl, rfl⟩) : e_Sn 7 33 (o_load e_okI 2 34)) t_7_34
noncomputable def n_7_32 : e_Y := u_ld f_okI f_l3 n_7_33
theorem t_7_32 : e_Sn 7 32 (e_un n_7_32) := u_ldIT f_l3_eq (s_iload (i := .iload_n 3) (len := 1) hq_7 (by decide +kernel) rfl (.inr ⟨3, rfl, rfl, rfl⟩) : e_Sn 7 32 (o_load e_okI 3 33)) t_7_33
noncomputable def n_7_29 : e_Y := u_getf 1 1 (u_old (o_getf (e_f1 1 1) 32) n_7_32) n_7_32
theorem t_7_29 : e_Sn 7 29 (e_un n_7_29) := u_getfT (s_getf (C := er_1) (T := et_1) (N := 4) (ref := "Plateroomprinter$Code") (index := 15) (ci := 1) (k := 1) hq_7 ho_7 ⟨rfl, by decide, ei_1, (List.mem_of_getElem? (i := 199) (by decide +kernel)), .inl rfl⟩ (by decide +kernel) rfl : e_Sn 7 29 (o_getf (e_f1 1 1) 32)) t_7_32
noncomputable def n_7_28 : e_Y := u_ld f_okA f_l0 n_7_29
theorem t_7_28 : e_Sn 7 28 (e_un n_7_28) := u_ldAT f_l0_eq (s_aload (i := .aload_n 0) (len := 1) hq_7 (by decide +kernel) rfl (.inr ⟨0, rfl, rfl, rfl⟩) : e_Sn 7 28 (o_load e_okR 0 29)) t_7_29
noncomputable def n_7_27 : e_Y := u_old (o_ast 0 e_okI 28) n_7_28
theorem t_7_27 : e_Sn 7 27 (e_un n_7_27) := u_oldT (s_iast hq_7 (by decide +kernel) rfl : e_Sn 7 27 (o_ast 0 e_okI 28)) t_7_28 (e_cg_ast 0 e_okI)
noncomputable def n_7_26 : e_Y := u_ld f_okI f_l1 n_7_27
theorem t_7_26 : e_Sn 7 26 (e_un n_7_26) := u_ldIT f_l1_eq (s_iload (i := .iload_n 1) (len := 1) hq_7 (by decide +kernel) rfl (.inr ⟨1, rfl, rfl, rfl⟩) : e_Sn 7 26 (o_load e_okI 1 27)) t_7_27
noncomputable def n_7_25 : e_Y := u_ld f_okI f_l3 n_7_26
theorem t_7_25 : e_Sn 7 25 (e_un n_7_25) := u_ldIT f_l3_eq (s_iload (i := .iload_n 3) (len := 1) hq_7 (by decide +kernel) rfl (.inr ⟨3, rfl, rfl, rfl⟩) : e_Sn 7 25 (o_load e_okI 3 26)) t_7_26
noncomputable def n_7_22 : e_Y := u_getf 1 0 (u_old (o_getf (e_f1 1 0) 25) n_7_25) n_7_25
theorem t_7_22 : e_Sn 7 22 (e_un n_7_22) := u_getfT (s_getf (C := er_1) (T := et_1) (N := 4) (ref := "Plateroomprinter$Code") (index := 11) (ci := 1) (k := 0) hq_7 ho_7 ⟨rfl, by decide, ei_1, (List.mem_of_getElem? (i := 198) (by decide +kernel)), .inl rfl⟩ (by decide +kernel) rfl : e_Sn 7 22 (o_getf (e_f1 1 0) 25)) t_7_25
noncomputable def n_7_21 : e_Y := u_ld f_okA f_l0 n_7_22
theorem t_7_21 : e_Sn 7 21 (e_un n_7_21) := u_ldAT f_l0_eq (s_aload (i := .aload_n 0) (len := 1) hq_7 (by decide +kernel) rfl (.inr ⟨0, rfl, rfl, rfl⟩) : e_Sn 7 21 (o_load e_okR 0 22)) t_7_22
noncomputable def n_7_18 : e_Y := u_jmp y_ge (u_old2 (o_clt 21 45) 21 n_7_21 n_7_45) n_7_21 n_7_45
theorem t_7_18 : e_Sn 7 18 (e_un n_7_18) := u_cltT rfl (s_cge (off := (27)) hq_7 (by decide +kernel) rfl rfl : e_Sn 7 18 (o_clt 21 45)) t_7_21 t_7_45
noncomputable def n_7_15 : e_Y := u_push (.inl 2147485648) n_7_18
theorem t_7_15 : e_Sn 7 15 (e_un n_7_15) := u_pushT (s_sipush (n := (2000)) hq_7 (by decide +kernel) rfl ⟨by decide +kernel, by decide +kernel⟩ : e_Sn 7 15 (o_push (.inl 2147485648) 18)) t_7_18
noncomputable def n_7_14 : e_Y := u_ld f_okI f_l3 n_7_15
theorem t_7_14 : e_Sn 7 14 (e_un n_7_14) := u_ldIT f_l3_eq (s_iload (i := .iload_n 3) (len := 1) hq_7 (by decide +kernel) rfl (.inr ⟨3, rfl, rfl, rfl⟩) : e_Sn 7 14 (o_load e_okI 3 15)) t_7_15
noncomputable def n_7_11 : e_Y := u_if y_ge0 (u_old2 (o_iflt 45 14) 45 n_7_45 n_7_14) n_7_45 n_7_14
theorem t_7_11 : e_Sn 7 11 (e_un n_7_11) := u_ifltT rfl (s_iflt (off := (34)) hq_7 (by decide +kernel) rfl rfl : e_Sn 7 11 (o_iflt 45 14)) t_7_45 t_7_14
noncomputable def n_7_10 : e_Y := u_ld f_okI f_l3 n_7_11
theorem t_7_10 : e_Sn 7 10 (e_un n_7_10) := u_ldIT f_l3_eq (s_iload (i := .iload_n 3) (len := 1) hq_7 (by decide +kernel) rfl (.inr ⟨3, rfl, rfl, rfl⟩) : e_Sn 7 10 (o_load e_okI 3 11)) t_7_11
noncomputable def n_7_9 : e_Y := u_st f_okI f_s3 n_7_10
theorem t_7_9 : e_Sn 7 9 (e_un n_7_9) := u_stIT (fun _ _ _ => f_s3_eq) (s_istore (i := .istore_n 3) (len := 1) hq_7 (by decide +kernel) rfl (.inr ⟨3, rfl, rfl, rfl⟩) : e_Sn 7 9 (o_store e_okI 3 10)) t_7_10
noncomputable def n_7_8 : e_Y := u_bin a_iadd (u_old (o_iadd 9) n_7_9) n_7_9
theorem t_7_8 : e_Sn 7 8 (e_un n_7_8) := u_iaddT (s_iadd hq_7 (by decide +kernel) rfl : e_Sn 7 8 (o_iadd 9)) t_7_9
noncomputable def n_7_5 : e_Y := u_getf 1 3 (u_old (o_getf (e_f1 1 3) 8) n_7_8) n_7_8
theorem t_7_5 : e_Sn 7 5 (e_un n_7_5) := u_getfT (s_getf (C := er_1) (T := et_1) (N := 4) (ref := "Plateroomprinter$Code") (index := 22) (ci := 1) (k := 3) hq_7 ho_7 ⟨rfl, by decide, ei_1, (List.mem_of_getElem? (i := 203) (by decide +kernel)), .inl rfl⟩ (by decide +kernel) rfl : e_Sn 7 5 (o_getf (e_f1 1 3) 8)) t_7_8
noncomputable def n_7_4 : e_Y := u_ld f_okA f_l0 n_7_5
theorem t_7_4 : e_Sn 7 4 (e_un n_7_4) := u_ldAT f_l0_eq (s_aload (i := .aload_n 0) (len := 1) hq_7 (by decide +kernel) rfl (.inr ⟨0, rfl, rfl, rfl⟩) : e_Sn 7 4 (o_load e_okR 0 5)) t_7_5
noncomputable def n_7_1 : e_Y := u_getf 1 2 (u_old (o_getf (e_f1 1 2) 4) n_7_4) n_7_4
theorem t_7_1 : e_Sn 7 1 (e_un n_7_1) := u_getfT (s_getf (C := er_1) (T := et_1) (N := 4) (ref := "Plateroomprinter$Code") (index := 18) (ci := 1) (k := 2) hq_7 ho_7 ⟨rfl, by decide, ei_1, (List.mem_of_getElem? (i := 200) (by decide +kernel)), .inl rfl⟩ (by decide +kernel) rfl : e_Sn 7 1 (o_getf (e_f1 1 2) 4)) t_7_4
noncomputable def n_7_0 : e_Y := u_ld f_okA f_l0 n_7_1
theorem t_7_0 : e_Sn 7 0 (e_un n_7_0) := u_ldAT f_l0_eq (s_aload (i := .aload_n 0) (len := 1) hq_7 (by decide +kernel) rfl (.inr ⟨0, rfl, rfl, rfl⟩) : e_Sn 7 0 (o_load e_okR 0 1)) t_7_1
noncomputable def e_tb_7 : e_X := (e_lf 0 (e_un n_7_0))
theorem e_tk_7 : e_Tb 7 e_tb_7 := (e_lfT t_7_0)
theorem hq_5 : (e_ml[5]?).map (·.2.1) = some prog_1_method_3_code := rfl
theorem ho_5 : (e_ml[5]?).map (·.1.cls) = some "Plateroomprinter" := rfl
theorem hr_5 : (e_ml[5]?).map (·.2.2.2) = some (some .int) := rfl
noncomputable def n_5_97 : e_Y := u_retI
theorem t_5_97 : e_Sn 5 97 (e_un n_5_97) := u_retIT (s_iret hq_5 hr_5 (by decide +kernel) : e_Sn 5 97 (o_ret e_okI))
noncomputable def n_5_94 : e_Y := u_getf 1 3 (u_old (o_getf (e_f1 1 3) 97) n_5_97) n_5_97
theorem t_5_94 : e_Sn 5 94 (e_un n_5_94) := u_getfT (s_getf (C := er_1) (T := et_1) (N := 4) (ref := "Plateroomprinter$Code") (index := 101) (ci := 1) (k := 3) hq_5 ho_5 ⟨rfl, by decide, ei_1, (List.mem_of_getElem? (i := 204) (by decide +kernel)), .inl rfl⟩ (by decide +kernel) rfl : e_Sn 5 94 (o_getf (e_f1 1 3) 97)) t_5_97
noncomputable def n_5_91 : e_Y := u_getf 0 0 (u_old (o_getf (e_f1 0 0) 94) n_5_94) n_5_94
theorem t_5_91 : e_Sn 5 91 (e_un n_5_91) := u_getfT (s_getf (C := er_0) (T := et_0) (N := 17) (ref := "Plateroomprinter") (index := 10) (ci := 0) (k := 0) hq_5 ho_5 ⟨rfl, by decide, ei_0, (List.mem_of_getElem? (i := 680) (by decide +kernel)), .inl rfl⟩ (by decide +kernel) rfl : e_Sn 5 91 (o_getf (e_f1 0 0) 94)) t_5_94
noncomputable def n_5_90 : e_Y := u_ld f_okA f_l0 n_5_91
theorem t_5_90 : e_Sn 5 90 (e_un n_5_90) := u_ldAT f_l0_eq (s_aload (i := .aload_n 0) (len := 1) hq_5 (by decide +kernel) rfl (.inr ⟨0, rfl, rfl, rfl⟩) : e_Sn 5 90 (o_load e_okR 0 91)) t_5_91
noncomputable def n_5_87 : e_Y := u_callV 1 7 4 23 3 n_7_0 n_5_90
theorem t_5_87 : e_Sn 5 87 (e_un n_5_87) := u_callVT rfl (s_callV (ci := 1) (C := er_1) (T := et_1) (N := 4) (index := 109) hq_5 ho_5 hy_7 hp_7 hc_7 hi_7 hd_7 (List.mem_of_getElem? (i := 1590) (by decide +kernel)) hs_7 (List.mem_of_getElem? (i := 1592) (by decide +kernel)) rfl (by decide +kernel) rfl : e_Sn 5 87 (o_callV (e_s1 1 7 4) 3 90)) t_7_0 t_5_90
noncomputable def n_5_85 : e_Y := u_ld f_okI f_l6 n_5_87
theorem t_5_85 : e_Sn 5 85 (e_un n_5_85) := u_ldIT f_l6_eq (s_iload (i := .iload 6) (len := 2) hq_5 (by decide +kernel) rfl (.inl ⟨rfl, rfl⟩) : e_Sn 5 85 (o_load e_okI 6 87)) t_5_87
noncomputable def n_5_83 : e_Y := u_ld f_okI f_l5 n_5_85
theorem t_5_83 : e_Sn 5 83 (e_un n_5_83) := u_ldIT f_l5_eq (s_iload (i := .iload 5) (len := 2) hq_5 (by decide +kernel) rfl (.inl ⟨rfl, rfl⟩) : e_Sn 5 83 (o_load e_okI 5 85)) t_5_85
noncomputable def n_5_80 : e_Y := u_getf 0 0 (u_old (o_getf (e_f1 0 0) 83) n_5_83) n_5_83
theorem t_5_80 : e_Sn 5 80 (e_un n_5_80) := u_getfT (s_getf (C := er_0) (T := et_0) (N := 17) (ref := "Plateroomprinter") (index := 10) (ci := 0) (k := 0) hq_5 ho_5 ⟨rfl, by decide, ei_0, (List.mem_of_getElem? (i := 680) (by decide +kernel)), .inl rfl⟩ (by decide +kernel) rfl : e_Sn 5 80 (o_getf (e_f1 0 0) 83)) t_5_83
noncomputable def n_5_79 : e_Y := u_ld f_okA f_l0 n_5_80
theorem t_5_79 : e_Sn 5 79 (e_un n_5_79) := u_ldAT f_l0_eq (s_aload (i := .aload_n 0) (len := 1) hq_5 (by decide +kernel) rfl (.inr ⟨0, rfl, rfl, rfl⟩) : e_Sn 5 79 (o_load e_okR 0 80)) t_5_80
noncomputable def n_5_76 : e_Y := u_callV 1 7 4 23 3 n_7_0 n_5_79
theorem t_5_76 : e_Sn 5 76 (e_un n_5_76) := u_callVT rfl (s_callV (ci := 1) (C := er_1) (T := et_1) (N := 4) (index := 109) hq_5 ho_5 hy_7 hp_7 hc_7 hi_7 hd_7 (List.mem_of_getElem? (i := 1590) (by decide +kernel)) hs_7 (List.mem_of_getElem? (i := 1592) (by decide +kernel)) rfl (by decide +kernel) rfl : e_Sn 5 76 (o_callV (e_s1 1 7 4) 3 79)) t_7_0 t_5_79
noncomputable def n_5_74 : e_Y := u_ld f_okI f_l4 n_5_76
theorem t_5_74 : e_Sn 5 74 (e_un n_5_74) := u_ldIT f_l4_eq (s_iload (i := .iload 4) (len := 2) hq_5 (by decide +kernel) rfl (.inl ⟨rfl, rfl⟩) : e_Sn 5 74 (o_load e_okI 4 76)) t_5_76
noncomputable def n_5_73 : e_Y := u_ld f_okI f_l3 n_5_74
theorem t_5_73 : e_Sn 5 73 (e_un n_5_73) := u_ldIT f_l3_eq (s_iload (i := .iload_n 3) (len := 1) hq_5 (by decide +kernel) rfl (.inr ⟨3, rfl, rfl, rfl⟩) : e_Sn 5 73 (o_load e_okI 3 74)) t_5_74
noncomputable def n_5_70 : e_Y := u_getf 0 0 (u_old (o_getf (e_f1 0 0) 73) n_5_73) n_5_73
theorem t_5_70 : e_Sn 5 70 (e_un n_5_70) := u_getfT (s_getf (C := er_0) (T := et_0) (N := 17) (ref := "Plateroomprinter") (index := 10) (ci := 0) (k := 0) hq_5 ho_5 ⟨rfl, by decide, ei_0, (List.mem_of_getElem? (i := 680) (by decide +kernel)), .inl rfl⟩ (by decide +kernel) rfl : e_Sn 5 70 (o_getf (e_f1 0 0) 73)) t_5_73
noncomputable def n_5_69 : e_Y := u_ld f_okA f_l0 n_5_70
theorem t_5_69 : e_Sn 5 69 (e_un n_5_69) := u_ldAT f_l0_eq (s_aload (i := .aload_n 0) (len := 1) hq_5 (by decide +kernel) rfl (.inr ⟨0, rfl, rfl, rfl⟩) : e_Sn 5 69 (o_load e_okR 0 70)) t_5_70
noncomputable def n_5_66 : e_Y := u_callV 1 7 4 23 3 n_7_0 n_5_69
theorem t_5_66 : e_Sn 5 66 (e_un n_5_66) := u_callVT rfl (s_callV (ci := 1) (C := er_1) (T := et_1) (N := 4) (index := 109) hq_5 ho_5 hy_7 hp_7 hc_7 hi_7 hd_7 (List.mem_of_getElem? (i := 1590) (by decide +kernel)) hs_7 (List.mem_of_getElem? (i := 1592) (by decide +kernel)) rfl (by decide +kernel) rfl : e_Sn 5 66 (o_callV (e_s1 1 7 4) 3 69)) t_7_0 t_5_69
noncomputable def n_5_65 : e_Y := u_ld f_okI f_l2 n_5_66
theorem t_5_65 : e_Sn 5 65 (e_un n_5_65) := u_ldIT f_l2_eq (s_iload (i := .iload_n 2) (len := 1) hq_5 (by decide +kernel) rfl (.inr ⟨2, rfl, rfl, rfl⟩) : e_Sn 5 65 (o_load e_okI 2 66)) t_5_66
noncomputable def n_5_64 : e_Y := u_ld f_okI f_l1 n_5_65
theorem t_5_64 : e_Sn 5 64 (e_un n_5_64) := u_ldIT f_l1_eq (s_iload (i := .iload_n 1) (len := 1) hq_5 (by decide +kernel) rfl (.inr ⟨1, rfl, rfl, rfl⟩) : e_Sn 5 64 (o_load e_okI 1 65)) t_5_65
noncomputable def n_5_61 : e_Y := u_getf 0 0 (u_old (o_getf (e_f1 0 0) 64) n_5_64) n_5_64
theorem t_5_61 : e_Sn 5 61 (e_un n_5_61) := u_getfT (s_getf (C := er_0) (T := et_0) (N := 17) (ref := "Plateroomprinter") (index := 10) (ci := 0) (k := 0) hq_5 ho_5 ⟨rfl, by decide, ei_0, (List.mem_of_getElem? (i := 680) (by decide +kernel)), .inl rfl⟩ (by decide +kernel) rfl : e_Sn 5 61 (o_getf (e_f1 0 0) 64)) t_5_64
noncomputable def n_5_60 : e_Y := u_ld f_okA f_l0 n_5_61
theorem t_5_60 : e_Sn 5 60 (e_un n_5_60) := u_ldAT f_l0_eq (s_aload (i := .aload_n 0) (len := 1) hq_5 (by decide +kernel) rfl (.inr ⟨0, rfl, rfl, rfl⟩) : e_Sn 5 60 (o_load e_okR 0 61)) t_5_61
noncomputable def n_5_47 : e_Y := u_jmp y_le (u_old2 (o_cgt 50 60) 50 (u_at 50) n_5_60) (u_at 50) n_5_60
theorem t_5_47 : e_Sn 5 47 (e_un n_5_47) := u_cgtT rfl (s_cle (off := (13)) hq_5 (by decide +kernel) rfl rfl : e_Sn 5 47 (o_cgt 50 60)) u_atT t_5_60
noncomputable def n_5_44 : e_Y := u_push (.inl 2147484045) n_5_47
theorem t_5_44 : e_Sn 5 44 (e_un n_5_44) := u_pushT (s_sipush (n := (397)) hq_5 (by decide +kernel) rfl ⟨by decide +kernel, by decide +kernel⟩ : e_Sn 5 44 (o_push (.inl 2147484045) 47)) t_5_47
noncomputable def n_5_41 : e_Y := u_getf 1 3 (u_old (o_getf (e_f1 1 3) 44) n_5_44) n_5_44
theorem t_5_41 : e_Sn 5 41 (e_un n_5_41) := u_getfT (s_getf (C := er_1) (T := et_1) (N := 4) (ref := "Plateroomprinter$Code") (index := 101) (ci := 1) (k := 3) hq_5 ho_5 ⟨rfl, by decide, ei_1, (List.mem_of_getElem? (i := 204) (by decide +kernel)), .inl rfl⟩ (by decide +kernel) rfl : e_Sn 5 41 (o_getf (e_f1 1 3) 44)) t_5_44
noncomputable def n_5_38 : e_Y := u_getf 0 0 (u_old (o_getf (e_f1 0 0) 41) n_5_41) n_5_41
theorem t_5_38 : e_Sn 5 38 (e_un n_5_38) := u_getfT (s_getf (C := er_0) (T := et_0) (N := 17) (ref := "Plateroomprinter") (index := 10) (ci := 0) (k := 0) hq_5 ho_5 ⟨rfl, by decide, ei_0, (List.mem_of_getElem? (i := 680) (by decide +kernel)), .inl rfl⟩ (by decide +kernel) rfl : e_Sn 5 38 (o_getf (e_f1 0 0) 41)) t_5_41
noncomputable def n_5_37 : e_Y := u_ld f_okA f_l0 n_5_38
theorem t_5_37 : e_Sn 5 37 (e_un n_5_37) := u_ldAT f_l0_eq (s_aload (i := .aload_n 0) (len := 1) hq_5 (by decide +kernel) rfl (.inr ⟨0, rfl, rfl, rfl⟩) : e_Sn 5 37 (o_load e_okR 0 38)) t_5_38
noncomputable def n_5_24 : e_Y := u_if y_ne0 (u_old2 (o_ifeq 27 37) 27 (u_at 27) n_5_37) (u_at 27) n_5_37
theorem t_5_24 : e_Sn 5 24 (e_un n_5_24) := u_ifeqT rfl (s_ifne (off := (13)) hq_5 (by decide +kernel) rfl rfl : e_Sn 5 24 (o_ifeq 27 37)) u_atT t_5_37
noncomputable def n_5_21 : e_Y := u_callS 2 2 21 2 n_2_0 n_5_24
theorem t_5_21 : e_Sn 5 21 (e_un n_5_21) := u_callST rfl (s_callS (index := 90) hq_5 ho_5 hy_2 hp_2 hc_2 hi_2 hd_2 (List.mem_of_getElem? (i := 1570) (by decide +kernel)) hs_2 (by decide +kernel) rfl : e_Sn 5 21 (o_callS 2 2 2 24)) t_2_0 t_5_24
noncomputable def n_5_19 : e_Y := u_ld f_okI f_l6 n_5_21
theorem t_5_19 : e_Sn 5 19 (e_un n_5_19) := u_ldIT f_l6_eq (s_iload (i := .iload 6) (len := 2) hq_5 (by decide +kernel) rfl (.inl ⟨rfl, rfl⟩) : e_Sn 5 19 (o_load e_okI 6 21)) t_5_21
noncomputable def n_5_17 : e_Y := u_ld f_okI f_l5 n_5_19
theorem t_5_17 : e_Sn 5 17 (e_un n_5_17) := u_ldIT f_l5_eq (s_iload (i := .iload 5) (len := 2) hq_5 (by decide +kernel) rfl (.inl ⟨rfl, rfl⟩) : e_Sn 5 17 (o_load e_okI 5 19)) t_5_19
noncomputable def n_5_14 : e_Y := u_if y_ne0 (u_old2 (o_ifeq 27 17) 27 (u_at 27) n_5_17) (u_at 27) n_5_17
theorem t_5_14 : e_Sn 5 14 (e_un n_5_14) := u_ifeqT rfl (s_ifeq (off := (13)) hq_5 (by decide +kernel) rfl rfl : e_Sn 5 14 (o_ifeq 27 17)) u_atT t_5_17
noncomputable def n_5_11 : e_Y := u_callS 2 2 21 2 n_2_0 n_5_14
theorem t_5_11 : e_Sn 5 11 (e_un n_5_11) := u_callST rfl (s_callS (index := 90) hq_5 ho_5 hy_2 hp_2 hc_2 hi_2 hd_2 (List.mem_of_getElem? (i := 1570) (by decide +kernel)) hs_2 (by decide +kernel) rfl : e_Sn 5 11 (o_callS 2 2 2 14)) t_2_0 t_5_14
noncomputable def n_5_9 : e_Y := u_ld f_okI f_l4 n_5_11
theorem t_5_9 : e_Sn 5 9 (e_un n_5_9) := u_ldIT f_l4_eq (s_iload (i := .iload 4) (len := 2) hq_5 (by decide +kernel) rfl (.inl ⟨rfl, rfl⟩) : e_Sn 5 9 (o_load e_okI 4 11)) t_5_11
noncomputable def n_5_8 : e_Y := u_ld f_okI f_l3 n_5_9
theorem t_5_8 : e_Sn 5 8 (e_un n_5_8) := u_ldIT f_l3_eq (s_iload (i := .iload_n 3) (len := 1) hq_5 (by decide +kernel) rfl (.inr ⟨3, rfl, rfl, rfl⟩) : e_Sn 5 8 (o_load e_okI 3 9)) t_5_9
noncomputable def n_5_5 : e_Y := u_if y_ne0 (u_old2 (o_ifeq 27 8) 27 (u_at 27) n_5_8) (u_at 27) n_5_8
theorem t_5_5 : e_Sn 5 5 (e_un n_5_5) := u_ifeqT rfl (s_ifeq (off := (22)) hq_5 (by decide +kernel) rfl rfl : e_Sn 5 5 (o_ifeq 27 8)) u_atT t_5_8
noncomputable def n_5_2 : e_Y := u_callS 2 2 21 2 n_2_0 n_5_5
theorem t_5_2 : e_Sn 5 2 (e_un n_5_2) := u_callST rfl (s_callS (index := 90) hq_5 ho_5 hy_2 hp_2 hc_2 hi_2 hd_2 (List.mem_of_getElem? (i := 1570) (by decide +kernel)) hs_2 (by decide +kernel) rfl : e_Sn 5 2 (o_callS 2 2 2 5)) t_2_0 t_5_5
noncomputable def n_5_1 : e_Y := u_ld f_okI f_l2 n_5_2
theorem t_5_1 : e_Sn 5 1 (e_un n_5_1) := u_ldIT f_l2_eq (s_iload (i := .iload_n 2) (len := 1) hq_5 (by decide +kernel) rfl (.inr ⟨2, rfl, rfl, rfl⟩) : e_Sn 5 1 (o_load e_okI 2 2)) t_5_2
noncomputable def n_5_0 : e_Y := u_ld f_okI f_l1 n_5_1
theorem t_5_0 : e_Sn 5 0 (e_un n_5_0) := u_ldIT f_l1_eq (s_iload (i := .iload_n 1) (len := 1) hq_5 (by decide +kernel) rfl (.inr ⟨1, rfl, rfl, rfl⟩) : e_Sn 5 0 (o_load e_okI 1 1)) t_5_1
noncomputable def e_tb_5 : e_X := (e_lf 0 (e_un n_5_0))
theorem e_tk_5 : e_Tb 5 e_tb_5 := (e_lfT t_5_0)
theorem hq_58 : (e_ml[58]?).map (·.2.1) = some method_4_code := rfl
theorem ho_58 : (e_ml[58]?).map (·.1.cls) = some "PlateroomprinterLaw" := rfl
theorem hr_58 : (e_ml[58]?).map (·.2.2.2) = some (some .int) := rfl
noncomputable def n_58_30 : e_Y := u_retI
theorem t_58_30 : e_Sn 58 30 (e_un n_58_30) := u_retIT (s_iret hq_58 hr_58 (by decide +kernel) : e_Sn 58 30 (o_ret e_okI))
noncomputable def n_58_29 : e_Y := u_push (.inl 2147483648) n_58_30
theorem t_58_29 : e_Sn 58 29 (e_un n_58_29) := u_pushT (s_iconst (n := (0)) hq_58 (by decide +kernel) rfl ⟨by decide +kernel, by decide +kernel⟩ : e_Sn 58 29 (o_push (.inl 2147483648) 30)) t_58_30
noncomputable def n_58_18 : e_Y := n_58_29
theorem t_58_18 : e_Sn 58 18 (e_un n_58_18) := u_gotoT (s_goto (off := (11)) hq_58 (by decide +kernel) rfl : e_Sn 58 18 (o_goto 29)) t_58_29
noncomputable def n_58_17 : e_Y := u_old (o_ast 2 e_okL 18) n_58_18
theorem t_58_17 : e_Sn 58 17 (e_un n_58_17) := u_oldT (s_last hq_58 (by decide +kernel) rfl : e_Sn 58 17 (o_ast 2 e_okL 18)) t_58_18 (e_cg_ast 2 e_okL)
noncomputable def n_58_16 : e_Y := u_old (o_i2l 17) n_58_17
theorem t_58_16 : e_Sn 58 16 (e_un n_58_16) := u_oldT (s_i2l hq_58 (by decide +kernel) rfl : e_Sn 58 16 (o_i2l 17)) t_58_17 e_congr_i2l
noncomputable def n_58_13 : e_Y := u_tab (o_callVX (e_s1 0 5 7) 7 16 [(0, 21), (1, 25)])
theorem t_58_13 : e_Sn 58 13 (e_un n_58_13) := u_tabT (s_callVX (ci := 0) (C := er_0) (T := et_0) (N := 17) (index := 17) hq_58 ho_58 hy_5 hp_5 hc_5 hi_5 hd_5 (List.mem_of_getElem? (i := 1597) (by decide +kernel)) hs_5 (List.mem_of_getElem? (i := 1599) (by decide +kernel)) rfl (by decide +kernel) rfl hy_58 hc_58 (e_hc2 rfl rfl (by decide) (List.mem_of_getElem? (i := 1564) (by decide +kernel)) (List.mem_of_getElem? (i := 1296) (by decide +kernel)) rfl rfl (by decide) (List.mem_of_getElem? (i := 1565) (by decide +kernel)) (List.mem_of_getElem? (i := 1576) (by decide +kernel)) (by simp [e_nc])) : e_Sn 58 13 (o_callVX (e_s1 0 5 7) 7 16 [(0, 21), (1, 25)]))
noncomputable def n_58_11 : e_Y := u_ld f_okI f_l6 n_58_13
theorem t_58_11 : e_Sn 58 11 (e_un n_58_11) := u_ldIT f_l6_eq (s_iload (i := .iload 6) (len := 2) hq_58 (by decide +kernel) rfl (.inl ⟨rfl, rfl⟩) : e_Sn 58 11 (o_load e_okI 6 13)) t_58_13
noncomputable def n_58_9 : e_Y := u_ld f_okI f_l5 n_58_11
theorem t_58_9 : e_Sn 58 9 (e_un n_58_9) := u_ldIT f_l5_eq (s_iload (i := .iload 5) (len := 2) hq_58 (by decide +kernel) rfl (.inl ⟨rfl, rfl⟩) : e_Sn 58 9 (o_load e_okI 5 11)) t_58_11
noncomputable def n_58_7 : e_Y := u_ld f_okI f_l4 n_58_9
theorem t_58_7 : e_Sn 58 7 (e_un n_58_7) := u_ldIT f_l4_eq (s_iload (i := .iload 4) (len := 2) hq_58 (by decide +kernel) rfl (.inl ⟨rfl, rfl⟩) : e_Sn 58 7 (o_load e_okI 4 9)) t_58_9
noncomputable def n_58_6 : e_Y := u_ld f_okI f_l3 n_58_7
theorem t_58_6 : e_Sn 58 6 (e_un n_58_6) := u_ldIT f_l3_eq (s_iload (i := .iload_n 3) (len := 1) hq_58 (by decide +kernel) rfl (.inr ⟨3, rfl, rfl, rfl⟩) : e_Sn 58 6 (o_load e_okI 3 7)) t_58_7
noncomputable def n_58_5 : e_Y := u_ld f_okI f_l2 n_58_6
theorem t_58_5 : e_Sn 58 5 (e_un n_58_5) := u_ldIT f_l2_eq (s_iload (i := .iload_n 2) (len := 1) hq_58 (by decide +kernel) rfl (.inr ⟨2, rfl, rfl, rfl⟩) : e_Sn 58 5 (o_load e_okI 2 6)) t_58_6
noncomputable def n_58_4 : e_Y := u_ld f_okI f_l1 n_58_5
theorem t_58_4 : e_Sn 58 4 (e_un n_58_4) := u_ldIT f_l1_eq (s_iload (i := .iload_n 1) (len := 1) hq_58 (by decide +kernel) rfl (.inr ⟨1, rfl, rfl, rfl⟩) : e_Sn 58 4 (o_load e_okI 1 5)) t_58_5
noncomputable def n_58_3 : e_Y := u_ld f_okA f_l0 n_58_4
theorem t_58_3 : e_Sn 58 3 (e_un n_58_3) := u_ldAT f_l0_eq (s_aload (i := .aload_n 0) (len := 1) hq_58 (by decide +kernel) rfl (.inr ⟨0, rfl, rfl, rfl⟩) : e_Sn 58 3 (o_load e_okR 0 4)) t_58_4
noncomputable def n_58_2 : e_Y := u_push (.inl 2147483648) n_58_3
theorem t_58_2 : e_Sn 58 2 (e_un n_58_2) := u_pushT (s_iconst (n := (0)) hq_58 (by decide +kernel) rfl ⟨by decide +kernel, by decide +kernel⟩ : e_Sn 58 2 (o_push (.inl 2147483648) 3)) t_58_3
noncomputable def n_58_0 : e_Y := u_ld f_okA f_l7 n_58_2
theorem t_58_0 : e_Sn 58 0 (e_un n_58_0) := u_ldAT f_l7_eq (s_aload (i := .aload 7) (len := 2) hq_58 (by decide +kernel) rfl (.inl ⟨rfl, rfl⟩) : e_Sn 58 0 (o_load e_okR 7 2)) t_58_2
noncomputable def e_tb_58 : e_X := (e_br 16 (e_lf 0 (e_un n_58_0)) (e_lf 16 (e_un n_58_16)))
theorem e_tk_58 : e_Tb 58 e_tb_58 := (e_brT (e_lfT t_58_0) (e_lfT t_58_16))
theorem hq_100 : (e_ml[100]?).map (·.2.1) = some prog_48_method_1_code := rfl
theorem ho_100 : (e_ml[100]?).map (·.1.cls) = some "java/util/AbstractCollection" := rfl
theorem hr_100 : (e_ml[100]?).map (·.2.2.2) = some none := rfl
noncomputable def n_100_4 : e_Y := u_tab (o_retv)
theorem t_100_4 : e_Sn 100 4 (e_un n_100_4) := u_tabT (s_vret hq_100 hr_100 (by decide +kernel) : e_Sn 100 4 (o_retv))
noncomputable def n_100_1 : e_Y := u_tab (o_oinit 4)
theorem t_100_1 : e_Sn 100 1 (e_un n_100_1) := u_tabT (s_oinit (idx := 1) hq_100 ho_100 (List.mem_of_getElem? (i := 1761) (by decide +kernel)) (List.mem_of_getElem? (i := 190) (by decide +kernel)) (List.mem_of_getElem? (i := 191) (by decide +kernel)) (by decide +kernel) rfl : e_Sn 100 1 (o_oinit 4))
noncomputable def n_100_0 : e_Y := u_ld f_okA f_l0 n_100_1
theorem t_100_0 : e_Sn 100 0 (e_un n_100_0) := u_ldAT f_l0_eq (s_aload (i := .aload_n 0) (len := 1) hq_100 (by decide +kernel) rfl (.inr ⟨0, rfl, rfl, rfl⟩) : e_Sn 100 0 (o_load e_okR 0 1)) t_100_1
noncomputable def e_tb_100 : e_X := (e_br 4 (e_lf 0 (e_un n_100_0)) (e_lf 4 (e_un n_100_4)))
theorem e_tk_100 : e_Tb 100 e_tb_100 := (e_brT (e_lfT t_100_0) (e_lfT t_100_4))
theorem hq_101 : (e_ml[101]?).map (·.2.1) = some prog_49_method_1_code := rfl
theorem ho_101 : (e_ml[101]?).map (·.1.cls) = some "java/util/AbstractList" := rfl
theorem hr_101 : (e_ml[101]?).map (·.2.2.2) = some none := rfl
noncomputable def n_101_9 : e_Y := u_tab (o_retv)
theorem t_101_9 : e_Sn 101 9 (e_un n_101_9) := u_tabT (s_vret hq_101 hr_101 (by decide +kernel) : e_Sn 101 9 (o_retv))
noncomputable def n_101_6 : e_Y := u_old (o_putf (e_f1 19 2) e_okI 9) n_101_9
theorem t_101_6 : e_Sn 101 6 (e_un n_101_6) := u_oldT (s_putf (ty0 := ey_19) (ok := e_okI) (C := er_19) (T := et_19) (N := 3) (ref := "java/util/AbstractList") (index := 7) (ci := 19) (k := 2) hq_101 ho_101 ⟨rfl, by decide, ei_19, (List.mem_of_getElem? (i := 1768) (by decide +kernel)), .inl rfl⟩ eo_19 en_19 e_oksI (.inl rfl) (by decide +kernel) rfl : e_Sn 101 6 (o_putf (e_f1 19 2) e_okI 9)) t_101_9 (e_cg_putf (e_f1 19 2) e_okI)
noncomputable def n_101_5 : e_Y := u_push (.inl 2147483648) n_101_6
theorem t_101_5 : e_Sn 101 5 (e_un n_101_5) := u_pushT (s_iconst (n := (0)) hq_101 (by decide +kernel) rfl ⟨by decide +kernel, by decide +kernel⟩ : e_Sn 101 5 (o_push (.inl 2147483648) 6)) t_101_6
noncomputable def n_101_4 : e_Y := u_ld f_okA f_l0 n_101_5
theorem t_101_4 : e_Sn 101 4 (e_un n_101_4) := u_ldAT f_l0_eq (s_aload (i := .aload_n 0) (len := 1) hq_101 (by decide +kernel) rfl (.inr ⟨0, rfl, rfl, rfl⟩) : e_Sn 101 4 (o_load e_okR 0 5)) t_101_5
noncomputable def n_101_1 : e_Y := u_tab (o_callI 100 1 1 4)
theorem t_101_1 : e_Sn 101 1 (e_un n_101_1) := u_tabT (s_callI (index := 1) hq_101 ho_101 hy_100 hp_100 hc_100 hi_100 hd_100 (List.mem_of_getElem? (i := 1758) (by decide +kernel)) rfl rfl hs_100 (by decide +kernel) rfl : e_Sn 101 1 (o_callI 100 1 1 4))
noncomputable def n_101_0 : e_Y := u_ld f_okA f_l0 n_101_1
theorem t_101_0 : e_Sn 101 0 (e_un n_101_0) := u_ldAT f_l0_eq (s_aload (i := .aload_n 0) (len := 1) hq_101 (by decide +kernel) rfl (.inr ⟨0, rfl, rfl, rfl⟩) : e_Sn 101 0 (o_load e_okR 0 1)) t_101_1
noncomputable def e_tb_101 : e_X := (e_br 4 (e_lf 0 (e_un n_101_0)) (e_lf 4 (e_un n_101_4)))
theorem e_tk_101 : e_Tb 101 e_tb_101 := (e_brT (e_lfT t_101_0) (e_lfT t_101_4))
theorem hq_102 : (e_ml[102]?).map (·.2.1) = some prog_50_method_2_code := rfl
theorem ho_102 : (e_ml[102]?).map (·.1.cls) = some "java/util/ArrayList" := rfl
theorem hr_102 : (e_ml[102]?).map (·.2.2.2) = some none := rfl
noncomputable def n_102_11 : e_Y := u_tab (o_retv)
theorem t_102_11 : e_Sn 102 11 (e_un n_102_11) := u_tabT (s_vret hq_102 hr_102 (by decide +kernel) : e_Sn 102 11 (o_retv))
noncomputable def n_102_8 : e_Y := u_old (o_putf (e_f1 19 0) e_okR 11) n_102_11
theorem t_102_8 : e_Sn 102 8 (e_un n_102_8) := u_oldT (s_putf (ty0 := ey_19) (ok := e_okR) (C := er_19) (T := et_19) (N := 3) (ref := "java/util/ArrayList") (index := 9) (ci := 19) (k := 0) hq_102 ho_102 ⟨rfl, by decide, ei_19, (List.mem_of_getElem? (i := 1764) (by decide +kernel)), .inl rfl⟩ eo_19 en_19 e_oksA (.inl rfl) (by decide +kernel) rfl : e_Sn 102 8 (o_putf (e_f1 19 0) e_okR 11)) t_102_11 (e_cg_putf (e_f1 19 0) e_okR)
noncomputable def n_102_5 : e_Y := u_push (e_B 3) n_102_8
theorem t_102_5 : e_Sn 102 5 (e_un n_102_5) := u_pushT (s_gets (k := 3) (index := 39) (C := "java/util/ArrayList") (f := "DEFAULTCAPACITY_EMPTY_ELEMENTDATA") (d := "[Ljava/lang/Object;") hq_102 ho_102 (List.mem_of_getElem? (i := 1762) (by decide +kernel)) (by simp [e_sv]) (by decide +kernel) rfl : e_Sn 102 5 (o_push (e_B 3) 8)) t_102_8
noncomputable def n_102_4 : e_Y := u_ld f_okA f_l0 n_102_5
theorem t_102_4 : e_Sn 102 4 (e_un n_102_4) := u_ldAT f_l0_eq (s_aload (i := .aload_n 0) (len := 1) hq_102 (by decide +kernel) rfl (.inr ⟨0, rfl, rfl, rfl⟩) : e_Sn 102 4 (o_load e_okR 0 5)) t_102_5
noncomputable def n_102_1 : e_Y := u_tab (o_callI 101 1 1 4)
theorem t_102_1 : e_Sn 102 1 (e_un n_102_1) := u_tabT (s_callI (index := 1) hq_102 ho_102 hy_101 hp_101 hc_101 hi_101 hd_101 (List.mem_of_getElem? (i := 1755) (by decide +kernel)) rfl rfl hs_101 (by decide +kernel) rfl : e_Sn 102 1 (o_callI 101 1 1 4))
noncomputable def n_102_0 : e_Y := u_ld f_okA f_l0 n_102_1
theorem t_102_0 : e_Sn 102 0 (e_un n_102_0) := u_ldAT f_l0_eq (s_aload (i := .aload_n 0) (len := 1) hq_102 (by decide +kernel) rfl (.inr ⟨0, rfl, rfl, rfl⟩) : e_Sn 102 0 (o_load e_okR 0 1)) t_102_1
noncomputable def e_tb_102 : e_X := (e_br 4 (e_lf 0 (e_un n_102_0)) (e_lf 4 (e_un n_102_4)))
theorem e_tk_102 : e_Tb 102 e_tb_102 := (e_brT (e_lfT t_102_0) (e_lfT t_102_4))
theorem hq_96 : (e_ml[96]?).map (·.2.1) = some prog_21_method_1_code := rfl
theorem ho_96 : (e_ml[96]?).map (·.1.cls) = some "PlateroomprinterModel$State" := rfl
theorem hr_96 : (e_ml[96]?).map (·.2.2.2) = some none := rfl
noncomputable def n_96_157 : e_Y := u_tab (o_retv)
theorem t_96_157 : e_Sn 96 157 (e_un n_96_157) := u_tabT (s_vret hq_96 hr_96 (by decide +kernel) : e_Sn 96 157 (o_retv))
noncomputable def n_96_154 : e_Y := (u_at 135)
theorem t_96_154 : e_Sn 96 154 (e_un n_96_154) := u_gotoT (s_goto (off := (-19)) hq_96 (by decide +kernel) rfl : e_Sn 96 154 (o_goto 135)) u_atT
noncomputable def n_96_151 : e_Y := u_inc f_l1 f_s1 1 n_96_154
theorem t_96_151 : e_Sn 96 151 (e_un n_96_151) := u_incT f_l1_eq (fun _ _ _ => f_s1_eq) (s_iinc (zz := (1)) hq_96 (by decide +kernel) rfl (by decide +kernel) ⟨by decide, by decide⟩ : e_Sn 96 151 (o_iinc 1 1 154)) t_96_154
noncomputable def n_96_150 : e_Y := u_old (o_ast 1 e_okZ 151) n_96_151
theorem t_96_150 : e_Sn 96 150 (e_un n_96_150) := u_oldT (s_zast hq_96 (by decide +kernel) rfl : e_Sn 96 150 (o_ast 1 e_okZ 151)) t_96_151 (e_cg_ast 1 e_okZ)
noncomputable def n_96_149 : e_Y := u_push (.inl 2147483649) n_96_150
theorem t_96_149 : e_Sn 96 149 (e_un n_96_149) := u_pushT (s_iconst (n := (1)) hq_96 (by decide +kernel) rfl ⟨by decide +kernel, by decide +kernel⟩ : e_Sn 96 149 (o_push (.inl 2147483649) 150)) t_96_150
noncomputable def n_96_148 : e_Y := u_ld f_okI f_l1 n_96_149
theorem t_96_148 : e_Sn 96 148 (e_un n_96_148) := u_ldIT f_l1_eq (s_iload (i := .iload_n 1) (len := 1) hq_96 (by decide +kernel) rfl (.inr ⟨1, rfl, rfl, rfl⟩) : e_Sn 96 148 (o_load e_okI 1 149)) t_96_149
noncomputable def n_96_145 : e_Y := u_getf 17 3 (u_old (o_getf (e_f1 17 3) 148) n_96_148) n_96_148
theorem t_96_145 : e_Sn 96 145 (e_un n_96_145) := u_getfT (s_getf (C := er_17) (T := et_17) (N := 6) (ref := "PlateroomprinterModel$State") (index := 22) (ci := 17) (k := 3) hq_96 ho_96 ⟨rfl, by decide, ei_17, (List.mem_of_getElem? (i := 1797) (by decide +kernel)), .inl rfl⟩ (by decide +kernel) rfl : e_Sn 96 145 (o_getf (e_f1 17 3) 148)) t_96_148
noncomputable def n_96_144 : e_Y := u_ld f_okA f_l0 n_96_145
theorem t_96_144 : e_Sn 96 144 (e_un n_96_144) := u_ldAT f_l0_eq (s_aload (i := .aload_n 0) (len := 1) hq_96 (by decide +kernel) rfl (.inr ⟨0, rfl, rfl, rfl⟩) : e_Sn 96 144 (o_load e_okR 0 145)) t_96_145
noncomputable def n_96_141 : e_Y := u_jmp y_ge (u_old2 (o_clt 144 157) 144 n_96_144 n_96_157) n_96_144 n_96_157
theorem t_96_141 : e_Sn 96 141 (e_un n_96_141) := u_cltT rfl (s_cge (off := (16)) hq_96 (by decide +kernel) rfl rfl : e_Sn 96 141 (o_clt 144 157)) t_96_144 t_96_157
noncomputable def n_96_140 : e_Y := u_old (o_alen e_fcs 141) n_96_141
theorem t_96_140 : e_Sn 96 140 (e_un n_96_140) := u_oldT (s_alen hq_96 (by decide +kernel) rfl : e_Sn 96 140 (o_alen e_fcs 141)) t_96_141 (e_cg_alen e_fcs)
noncomputable def n_96_137 : e_Y := u_getf 17 3 (u_old (o_getf (e_f1 17 3) 140) n_96_140) n_96_140
theorem t_96_137 : e_Sn 96 137 (e_un n_96_137) := u_getfT (s_getf (C := er_17) (T := et_17) (N := 6) (ref := "PlateroomprinterModel$State") (index := 22) (ci := 17) (k := 3) hq_96 ho_96 ⟨rfl, by decide, ei_17, (List.mem_of_getElem? (i := 1797) (by decide +kernel)), .inl rfl⟩ (by decide +kernel) rfl : e_Sn 96 137 (o_getf (e_f1 17 3) 140)) t_96_140
noncomputable def n_96_136 : e_Y := u_ld f_okA f_l0 n_96_137
theorem t_96_136 : e_Sn 96 136 (e_un n_96_136) := u_ldAT f_l0_eq (s_aload (i := .aload_n 0) (len := 1) hq_96 (by decide +kernel) rfl (.inr ⟨0, rfl, rfl, rfl⟩) : e_Sn 96 136 (o_load e_okR 0 137)) t_96_137
noncomputable def n_96_135 : e_Y := u_ld f_okI f_l1 n_96_136
theorem t_96_135 : e_Sn 96 135 (e_un n_96_135) := u_ldIT f_l1_eq (s_iload (i := .iload_n 1) (len := 1) hq_96 (by decide +kernel) rfl (.inr ⟨1, rfl, rfl, rfl⟩) : e_Sn 96 135 (o_load e_okI 1 136)) t_96_136
noncomputable def n_96_134 : e_Y := u_st f_okI f_s1 n_96_135
theorem t_96_134 : e_Sn 96 134 (e_un n_96_134) := u_stIT (fun _ _ _ => f_s1_eq) (s_istore (i := .istore_n 1) (len := 1) hq_96 (by decide +kernel) rfl (.inr ⟨1, rfl, rfl, rfl⟩) : e_Sn 96 134 (o_store e_okI 1 135)) t_96_135
noncomputable def n_96_133 : e_Y := u_push (.inl 2147483648) n_96_134
theorem t_96_133 : e_Sn 96 133 (e_un n_96_133) := u_pushT (s_iconst (n := (0)) hq_96 (by decide +kernel) rfl ⟨by decide +kernel, by decide +kernel⟩ : e_Sn 96 133 (o_push (.inl 2147483648) 134)) t_96_134
noncomputable def n_96_130 : e_Y := u_old (o_putf (e_f1 17 5) e_okR 133) n_96_133
theorem t_96_130 : e_Sn 96 130 (e_un n_96_130) := u_oldT (s_putf (ty0 := ey_17) (ok := e_okR) (C := er_17) (T := et_17) (N := 6) (ref := "PlateroomprinterModel$State") (index := 30) (ci := 17) (k := 5) hq_96 ho_96 ⟨rfl, by decide, ei_17, (List.mem_of_getElem? (i := 1803) (by decide +kernel)), .inl rfl⟩ eo_17 en_17 e_oksA (.inl rfl) (by decide +kernel) rfl : e_Sn 96 130 (o_putf (e_f1 17 5) e_okR 133)) t_96_133 (e_cg_putf (e_f1 17 5) e_okR)
noncomputable def n_96_129 : e_Y := u_old (o_ast 0 e_okI 130) n_96_130
theorem t_96_129 : e_Sn 96 129 (e_un n_96_129) := u_oldT (s_iast hq_96 (by decide +kernel) rfl : e_Sn 96 129 (o_ast 0 e_okI 130)) t_96_130 (e_cg_ast 0 e_okI)
noncomputable def n_96_128 : e_Y := u_push (.inl 2147483649) n_96_129
theorem t_96_128 : e_Sn 96 128 (e_un n_96_128) := u_pushT (s_iconst (n := (1)) hq_96 (by decide +kernel) rfl ⟨by decide +kernel, by decide +kernel⟩ : e_Sn 96 128 (o_push (.inl 2147483649) 129)) t_96_129
noncomputable def n_96_127 : e_Y := u_push (.inl 2147483651) n_96_128
theorem t_96_127 : e_Sn 96 127 (e_un n_96_127) := u_pushT (s_iconst (n := (3)) hq_96 (by decide +kernel) rfl ⟨by decide +kernel, by decide +kernel⟩ : e_Sn 96 127 (o_push (.inl 2147483651) 128)) t_96_128
noncomputable def n_96_126 : e_Y := u_old (o_dup 127) n_96_127
theorem t_96_126 : e_Sn 96 126 (e_un n_96_126) := u_oldT (s_dup hq_96 (by decide +kernel) rfl : e_Sn 96 126 (o_dup 127)) t_96_127 e_cg_dup
noncomputable def n_96_125 : e_Y := u_old (o_ast 0 e_okI 126) n_96_126
theorem t_96_125 : e_Sn 96 125 (e_un n_96_125) := u_oldT (s_iast hq_96 (by decide +kernel) rfl : e_Sn 96 125 (o_ast 0 e_okI 126)) t_96_126 (e_cg_ast 0 e_okI)
noncomputable def n_96_124 : e_Y := u_push (.inl 2147483648) n_96_125
theorem t_96_124 : e_Sn 96 124 (e_un n_96_124) := u_pushT (s_iconst (n := (0)) hq_96 (by decide +kernel) rfl ⟨by decide +kernel, by decide +kernel⟩ : e_Sn 96 124 (o_push (.inl 2147483648) 125)) t_96_125
noncomputable def n_96_123 : e_Y := u_push (.inl 2147483650) n_96_124
theorem t_96_123 : e_Sn 96 123 (e_un n_96_123) := u_pushT (s_iconst (n := (2)) hq_96 (by decide +kernel) rfl ⟨by decide +kernel, by decide +kernel⟩ : e_Sn 96 123 (o_push (.inl 2147483650) 124)) t_96_124
noncomputable def n_96_122 : e_Y := u_old (o_dup 123) n_96_123
theorem t_96_122 : e_Sn 96 122 (e_un n_96_122) := u_oldT (s_dup hq_96 (by decide +kernel) rfl : e_Sn 96 122 (o_dup 123)) t_96_123 e_cg_dup
noncomputable def n_96_121 : e_Y := u_old (o_ast 0 e_okI 122) n_96_122
theorem t_96_121 : e_Sn 96 121 (e_un n_96_121) := u_oldT (s_iast hq_96 (by decide +kernel) rfl : e_Sn 96 121 (o_ast 0 e_okI 122)) t_96_122 (e_cg_ast 0 e_okI)
noncomputable def n_96_120 : e_Y := u_push (.inl 2147483648) n_96_121
theorem t_96_120 : e_Sn 96 120 (e_un n_96_120) := u_pushT (s_iconst (n := (0)) hq_96 (by decide +kernel) rfl ⟨by decide +kernel, by decide +kernel⟩ : e_Sn 96 120 (o_push (.inl 2147483648) 121)) t_96_121
noncomputable def n_96_119 : e_Y := u_push (.inl 2147483649) n_96_120
theorem t_96_119 : e_Sn 96 119 (e_un n_96_119) := u_pushT (s_iconst (n := (1)) hq_96 (by decide +kernel) rfl ⟨by decide +kernel, by decide +kernel⟩ : e_Sn 96 119 (o_push (.inl 2147483649) 120)) t_96_120
noncomputable def n_96_118 : e_Y := u_old (o_dup 119) n_96_119
theorem t_96_118 : e_Sn 96 118 (e_un n_96_118) := u_oldT (s_dup hq_96 (by decide +kernel) rfl : e_Sn 96 118 (o_dup 119)) t_96_119 e_cg_dup
noncomputable def n_96_117 : e_Y := u_old (o_ast 0 e_okI 118) n_96_118
theorem t_96_117 : e_Sn 96 117 (e_un n_96_117) := u_oldT (s_iast hq_96 (by decide +kernel) rfl : e_Sn 96 117 (o_ast 0 e_okI 118)) t_96_118 (e_cg_ast 0 e_okI)
noncomputable def n_96_116 : e_Y := u_push (.inl 2147483649) n_96_117
theorem t_96_116 : e_Sn 96 116 (e_un n_96_116) := u_pushT (s_iconst (n := (1)) hq_96 (by decide +kernel) rfl ⟨by decide +kernel, by decide +kernel⟩ : e_Sn 96 116 (o_push (.inl 2147483649) 117)) t_96_117
noncomputable def n_96_115 : e_Y := u_push (.inl 2147483648) n_96_116
theorem t_96_115 : e_Sn 96 115 (e_un n_96_115) := u_pushT (s_iconst (n := (0)) hq_96 (by decide +kernel) rfl ⟨by decide +kernel, by decide +kernel⟩ : e_Sn 96 115 (o_push (.inl 2147483648) 116)) t_96_116
noncomputable def n_96_114 : e_Y := u_old (o_dup 115) n_96_115
theorem t_96_114 : e_Sn 96 114 (e_un n_96_114) := u_oldT (s_dup hq_96 (by decide +kernel) rfl : e_Sn 96 114 (o_dup 115)) t_96_115 e_cg_dup
noncomputable def n_96_112 : e_Y := u_tab (o_newa 0 (e_I 2147483648) 114)
theorem t_96_112 : e_Sn 96 112 (e_un n_96_112) := u_tabT (s_newI (List.mem_of_getElem? (i := 215) (by decide +kernel)) hq_96 (by decide +kernel) rfl : e_Sn 96 112 (o_newa 0 (e_I 2147483648) 114))
noncomputable def n_96_111 : e_Y := u_push (.inl 2147483652) n_96_112
theorem t_96_111 : e_Sn 96 111 (e_un n_96_111) := u_pushT (s_iconst (n := (4)) hq_96 (by decide +kernel) rfl ⟨by decide +kernel, by decide +kernel⟩ : e_Sn 96 111 (o_push (.inl 2147483652) 112)) t_96_112
noncomputable def n_96_110 : e_Y := u_ld f_okA f_l0 n_96_111
theorem t_96_110 : e_Sn 96 110 (e_un n_96_110) := u_ldAT f_l0_eq (s_aload (i := .aload_n 0) (len := 1) hq_96 (by decide +kernel) rfl (.inr ⟨0, rfl, rfl, rfl⟩) : e_Sn 96 110 (o_load e_okR 0 111)) t_96_111
noncomputable def n_96_107 : e_Y := u_old (o_putf (e_f1 17 4) e_okR 110) n_96_110
theorem t_96_107 : e_Sn 96 107 (e_un n_96_107) := u_oldT (s_putf (ty0 := ey_17) (ok := e_okR) (C := er_17) (T := et_17) (N := 6) (ref := "PlateroomprinterModel$State") (index := 26) (ci := 17) (k := 4) hq_96 ho_96 ⟨rfl, by decide, ei_17, (List.mem_of_getElem? (i := 1800) (by decide +kernel)), .inl rfl⟩ eo_17 en_17 e_oksA (.inl rfl) (by decide +kernel) rfl : e_Sn 96 107 (o_putf (e_f1 17 4) e_okR 110)) t_96_110 (e_cg_putf (e_f1 17 4) e_okR)
noncomputable def n_96_106 : e_Y := u_old (o_ast 0 e_okI 107) n_96_107
theorem t_96_106 : e_Sn 96 106 (e_un n_96_106) := u_oldT (s_iast hq_96 (by decide +kernel) rfl : e_Sn 96 106 (o_ast 0 e_okI 107)) t_96_107 (e_cg_ast 0 e_okI)
noncomputable def n_96_104 : e_Y := u_push (.inl 2147483664) n_96_106
theorem t_96_104 : e_Sn 96 104 (e_un n_96_104) := u_pushT (s_bipush (n := (16)) hq_96 (by decide +kernel) rfl ⟨by decide +kernel, by decide +kernel⟩ : e_Sn 96 104 (o_push (.inl 2147483664) 106)) t_96_106
noncomputable def n_96_103 : e_Y := u_push (.inl 2147483651) n_96_104
theorem t_96_103 : e_Sn 96 103 (e_un n_96_103) := u_pushT (s_iconst (n := (3)) hq_96 (by decide +kernel) rfl ⟨by decide +kernel, by decide +kernel⟩ : e_Sn 96 103 (o_push (.inl 2147483651) 104)) t_96_104
noncomputable def n_96_102 : e_Y := u_old (o_dup 103) n_96_103
theorem t_96_102 : e_Sn 96 102 (e_un n_96_102) := u_oldT (s_dup hq_96 (by decide +kernel) rfl : e_Sn 96 102 (o_dup 103)) t_96_103 e_cg_dup
noncomputable def n_96_101 : e_Y := u_old (o_ast 0 e_okI 102) n_96_102
theorem t_96_101 : e_Sn 96 101 (e_un n_96_101) := u_oldT (s_iast hq_96 (by decide +kernel) rfl : e_Sn 96 101 (o_ast 0 e_okI 102)) t_96_102 (e_cg_ast 0 e_okI)
noncomputable def n_96_100 : e_Y := u_push (.inl 2147483648) n_96_101
theorem t_96_100 : e_Sn 96 100 (e_un n_96_100) := u_pushT (s_iconst (n := (0)) hq_96 (by decide +kernel) rfl ⟨by decide +kernel, by decide +kernel⟩ : e_Sn 96 100 (o_push (.inl 2147483648) 101)) t_96_101
noncomputable def n_96_99 : e_Y := u_push (.inl 2147483650) n_96_100
theorem t_96_99 : e_Sn 96 99 (e_un n_96_99) := u_pushT (s_iconst (n := (2)) hq_96 (by decide +kernel) rfl ⟨by decide +kernel, by decide +kernel⟩ : e_Sn 96 99 (o_push (.inl 2147483650) 100)) t_96_100
noncomputable def n_96_98 : e_Y := u_old (o_dup 99) n_96_99
theorem t_96_98 : e_Sn 96 98 (e_un n_96_98) := u_oldT (s_dup hq_96 (by decide +kernel) rfl : e_Sn 96 98 (o_dup 99)) t_96_99 e_cg_dup
noncomputable def n_96_97 : e_Y := u_old (o_ast 0 e_okI 98) n_96_98
theorem t_96_97 : e_Sn 96 97 (e_un n_96_97) := u_oldT (s_iast hq_96 (by decide +kernel) rfl : e_Sn 96 97 (o_ast 0 e_okI 98)) t_96_98 (e_cg_ast 0 e_okI)
noncomputable def n_96_96 : e_Y := u_push (.inl 2147483648) n_96_97
theorem t_96_96 : e_Sn 96 96 (e_un n_96_96) := u_pushT (s_iconst (n := (0)) hq_96 (by decide +kernel) rfl ⟨by decide +kernel, by decide +kernel⟩ : e_Sn 96 96 (o_push (.inl 2147483648) 97)) t_96_97
noncomputable def n_96_95 : e_Y := u_push (.inl 2147483649) n_96_96
theorem t_96_95 : e_Sn 96 95 (e_un n_96_95) := u_pushT (s_iconst (n := (1)) hq_96 (by decide +kernel) rfl ⟨by decide +kernel, by decide +kernel⟩ : e_Sn 96 95 (o_push (.inl 2147483649) 96)) t_96_96
noncomputable def n_96_94 : e_Y := u_old (o_dup 95) n_96_95
theorem t_96_94 : e_Sn 96 94 (e_un n_96_94) := u_oldT (s_dup hq_96 (by decide +kernel) rfl : e_Sn 96 94 (o_dup 95)) t_96_95 e_cg_dup
noncomputable def n_96_93 : e_Y := u_old (o_ast 0 e_okI 94) n_96_94
theorem t_96_93 : e_Sn 96 93 (e_un n_96_93) := u_oldT (s_iast hq_96 (by decide +kernel) rfl : e_Sn 96 93 (o_ast 0 e_okI 94)) t_96_94 (e_cg_ast 0 e_okI)
noncomputable def n_96_92 : e_Y := u_push (.inl 2147483648) n_96_93
theorem t_96_92 : e_Sn 96 92 (e_un n_96_92) := u_pushT (s_iconst (n := (0)) hq_96 (by decide +kernel) rfl ⟨by decide +kernel, by decide +kernel⟩ : e_Sn 96 92 (o_push (.inl 2147483648) 93)) t_96_93
noncomputable def n_96_91 : e_Y := u_push (.inl 2147483648) n_96_92
theorem t_96_91 : e_Sn 96 91 (e_un n_96_91) := u_pushT (s_iconst (n := (0)) hq_96 (by decide +kernel) rfl ⟨by decide +kernel, by decide +kernel⟩ : e_Sn 96 91 (o_push (.inl 2147483648) 92)) t_96_92
noncomputable def n_96_90 : e_Y := u_old (o_dup 91) n_96_91
theorem t_96_90 : e_Sn 96 90 (e_un n_96_90) := u_oldT (s_dup hq_96 (by decide +kernel) rfl : e_Sn 96 90 (o_dup 91)) t_96_91 e_cg_dup
noncomputable def n_96_88 : e_Y := u_tab (o_newa 0 (e_I 2147483648) 90)
theorem t_96_88 : e_Sn 96 88 (e_un n_96_88) := u_tabT (s_newI (List.mem_of_getElem? (i := 215) (by decide +kernel)) hq_96 (by decide +kernel) rfl : e_Sn 96 88 (o_newa 0 (e_I 2147483648) 90))
noncomputable def n_96_87 : e_Y := u_push (.inl 2147483652) n_96_88
theorem t_96_87 : e_Sn 96 87 (e_un n_96_87) := u_pushT (s_iconst (n := (4)) hq_96 (by decide +kernel) rfl ⟨by decide +kernel, by decide +kernel⟩ : e_Sn 96 87 (o_push (.inl 2147483652) 88)) t_96_88
noncomputable def n_96_86 : e_Y := u_ld f_okA f_l0 n_96_87
theorem t_96_86 : e_Sn 96 86 (e_un n_96_86) := u_ldAT f_l0_eq (s_aload (i := .aload_n 0) (len := 1) hq_96 (by decide +kernel) rfl (.inr ⟨0, rfl, rfl, rfl⟩) : e_Sn 96 86 (o_load e_okR 0 87)) t_96_87
noncomputable def n_96_83 : e_Y := u_old (o_putf (e_f1 17 3) e_okR 86) n_96_86
theorem t_96_83 : e_Sn 96 83 (e_un n_96_83) := u_oldT (s_putf (ty0 := ey_17) (ok := e_okR) (C := er_17) (T := et_17) (N := 6) (ref := "PlateroomprinterModel$State") (index := 22) (ci := 17) (k := 3) hq_96 ho_96 ⟨rfl, by decide, ei_17, (List.mem_of_getElem? (i := 1797) (by decide +kernel)), .inl rfl⟩ eo_17 en_17 e_oksA (.inl rfl) (by decide +kernel) rfl : e_Sn 96 83 (o_putf (e_f1 17 3) e_okR 86)) t_96_86 (e_cg_putf (e_f1 17 3) e_okR)
noncomputable def n_96_81 : e_Y := u_tab (o_newa 1 (e_I 2147483648) 83)
theorem t_96_81 : e_Sn 96 81 (e_un n_96_81) := u_tabT (s_newZ (List.mem_of_getElem? (i := 1819) (by decide +kernel)) hq_96 (by decide +kernel) rfl : e_Sn 96 81 (o_newa 1 (e_I 2147483648) 83))
noncomputable def n_96_78 : e_Y := u_push (.inl 2147484672) n_96_81
theorem t_96_78 : e_Sn 96 78 (e_un n_96_78) := u_pushT (s_sipush (n := (1024)) hq_96 (by decide +kernel) rfl ⟨by decide +kernel, by decide +kernel⟩ : e_Sn 96 78 (o_push (.inl 2147484672) 81)) t_96_81
noncomputable def n_96_77 : e_Y := u_ld f_okA f_l0 n_96_78
theorem t_96_77 : e_Sn 96 77 (e_un n_96_77) := u_ldAT f_l0_eq (s_aload (i := .aload_n 0) (len := 1) hq_96 (by decide +kernel) rfl (.inr ⟨0, rfl, rfl, rfl⟩) : e_Sn 96 77 (o_load e_okR 0 78)) t_96_78
noncomputable def n_96_74 : e_Y := u_old (o_putf (e_f1 17 1) e_okR 77) n_96_77
theorem t_96_74 : e_Sn 96 74 (e_un n_96_74) := u_oldT (s_putf (ty0 := ey_17) (ok := e_okR) (C := er_17) (T := et_17) (N := 6) (ref := "PlateroomprinterModel$State") (index := 18) (ci := 17) (k := 1) hq_96 ho_96 ⟨rfl, by decide, ei_17, (List.mem_of_getElem? (i := 1791) (by decide +kernel)), .inl rfl⟩ eo_17 en_17 e_oksR (.inl rfl) (by decide +kernel) rfl : e_Sn 96 74 (o_putf (e_f1 17 1) e_okR 77)) t_96_77 (e_cg_putf (e_f1 17 1) e_okR)
noncomputable def n_96_71 : e_Y := u_tab (o_callI 102 1 1 74)
theorem t_96_71 : e_Sn 96 71 (e_un n_96_71) := u_tabT (s_callI (index := 17) hq_96 ho_96 hy_102 hp_102 hc_102 hi_102 hd_102 (List.mem_of_getElem? (i := 1788) (by decide +kernel)) rfl rfl hs_102 (by decide +kernel) rfl : e_Sn 96 71 (o_callI 102 1 1 74))
noncomputable def n_96_70 : e_Y := u_old (o_dup 71) n_96_71
theorem t_96_70 : e_Sn 96 70 (e_un n_96_70) := u_oldT (s_dup hq_96 (by decide +kernel) rfl : e_Sn 96 70 (o_dup 71)) t_96_71 e_cg_dup
noncomputable def n_96_67 : e_Y := u_tab (o_new 19 3 ef_19 70)
theorem t_96_67 : e_Sn 96 67 (e_un n_96_67) := u_tabT (s_new (index := 15) (ci := 19) (N := 3) (C := er_19) (T := et_19) (ty0 := ey_19) (fv := eg_19) hq_96 ho_96 rfl ei_19 eo_19 (List.mem_of_getElem? (i := 1787) (by decide +kernel)) (List.mem_of_getElem? (i := 1751) (by decide +kernel)) (List.mem_of_getElem? (i := 155) (by decide +kernel)) eh_19 rfl (e_newrel ek_19) (by decide +kernel) rfl : e_Sn 96 67 (o_new 19 3 ef_19 70))
noncomputable def n_96_66 : e_Y := u_ld f_okA f_l0 n_96_67
theorem t_96_66 : e_Sn 96 66 (e_un n_96_66) := u_ldAT f_l0_eq (s_aload (i := .aload_n 0) (len := 1) hq_96 (by decide +kernel) rfl (.inr ⟨0, rfl, rfl, rfl⟩) : e_Sn 96 66 (o_load e_okR 0 67)) t_96_67
noncomputable def n_96_63 : e_Y := u_old (o_putf (e_f1 17 0) e_okR 66) n_96_66
theorem t_96_63 : e_Sn 96 63 (e_un n_96_63) := u_oldT (s_putf (ty0 := ey_17) (ok := e_okR) (C := er_17) (T := et_17) (N := 6) (ref := "PlateroomprinterModel$State") (index := 9) (ci := 17) (k := 0) hq_96 ho_96 ⟨rfl, by decide, ei_17, (List.mem_of_getElem? (i := 1789) (by decide +kernel)), .inl rfl⟩ eo_17 en_17 e_oksA (.inl rfl) (by decide +kernel) rfl : e_Sn 96 63 (o_putf (e_f1 17 0) e_okR 66)) t_96_66 (e_cg_putf (e_f1 17 0) e_okR)
noncomputable def n_96_62 : e_Y := u_old (o_ast 2 e_okL 63) n_96_63
theorem t_96_62 : e_Sn 96 62 (e_un n_96_62) := u_oldT (s_last hq_96 (by decide +kernel) rfl : e_Sn 96 62 (o_ast 2 e_okL 63)) t_96_63 (e_cg_ast 2 e_okL)
noncomputable def n_96_61 : e_Y := u_push (e_L 9223372036854775809) n_96_62
theorem t_96_61 : e_Sn 96 61 (e_un n_96_61) := u_pushT (s_lconst (n := 1) hq_96 (by decide +kernel) rfl ⟨by decide +kernel, by decide +kernel⟩ : e_Sn 96 61 (o_push (e_L 9223372036854775809) 62)) t_96_62
noncomputable def n_96_59 : e_Y := u_push (.inl 2147483659) n_96_61
theorem t_96_59 : e_Sn 96 59 (e_un n_96_59) := u_pushT (s_bipush (n := (11)) hq_96 (by decide +kernel) rfl ⟨by decide +kernel, by decide +kernel⟩ : e_Sn 96 59 (o_push (.inl 2147483659) 61)) t_96_61
noncomputable def n_96_58 : e_Y := u_old (o_dup 59) n_96_59
theorem t_96_58 : e_Sn 96 58 (e_un n_96_58) := u_oldT (s_dup hq_96 (by decide +kernel) rfl : e_Sn 96 58 (o_dup 59)) t_96_59 e_cg_dup
noncomputable def n_96_57 : e_Y := u_old (o_ast 2 e_okL 58) n_96_58
theorem t_96_57 : e_Sn 96 57 (e_un n_96_57) := u_oldT (s_last hq_96 (by decide +kernel) rfl : e_Sn 96 57 (o_ast 2 e_okL 58)) t_96_58 (e_cg_ast 2 e_okL)
noncomputable def n_96_56 : e_Y := u_push (e_L 9223372036854775808) n_96_57
theorem t_96_56 : e_Sn 96 56 (e_un n_96_56) := u_pushT (s_lconst (n := 0) hq_96 (by decide +kernel) rfl ⟨by decide +kernel, by decide +kernel⟩ : e_Sn 96 56 (o_push (e_L 9223372036854775808) 57)) t_96_57
noncomputable def n_96_54 : e_Y := u_push (.inl 2147483658) n_96_56
theorem t_96_54 : e_Sn 96 54 (e_un n_96_54) := u_pushT (s_bipush (n := (10)) hq_96 (by decide +kernel) rfl ⟨by decide +kernel, by decide +kernel⟩ : e_Sn 96 54 (o_push (.inl 2147483658) 56)) t_96_56
noncomputable def n_96_53 : e_Y := u_old (o_dup 54) n_96_54
theorem t_96_53 : e_Sn 96 53 (e_un n_96_53) := u_oldT (s_dup hq_96 (by decide +kernel) rfl : e_Sn 96 53 (o_dup 54)) t_96_54 e_cg_dup
noncomputable def n_96_52 : e_Y := u_old (o_ast 2 e_okL 53) n_96_53
theorem t_96_52 : e_Sn 96 52 (e_un n_96_52) := u_oldT (s_last hq_96 (by decide +kernel) rfl : e_Sn 96 52 (o_ast 2 e_okL 53)) t_96_53 (e_cg_ast 2 e_okL)
noncomputable def n_96_51 : e_Y := u_push (e_L 9223372036854775809) n_96_52
theorem t_96_51 : e_Sn 96 51 (e_un n_96_51) := u_pushT (s_lconst (n := 1) hq_96 (by decide +kernel) rfl ⟨by decide +kernel, by decide +kernel⟩ : e_Sn 96 51 (o_push (e_L 9223372036854775809) 52)) t_96_52
noncomputable def n_96_49 : e_Y := u_push (.inl 2147483657) n_96_51
theorem t_96_49 : e_Sn 96 49 (e_un n_96_49) := u_pushT (s_bipush (n := (9)) hq_96 (by decide +kernel) rfl ⟨by decide +kernel, by decide +kernel⟩ : e_Sn 96 49 (o_push (.inl 2147483657) 51)) t_96_51
noncomputable def n_96_48 : e_Y := u_old (o_dup 49) n_96_49
theorem t_96_48 : e_Sn 96 48 (e_un n_96_48) := u_oldT (s_dup hq_96 (by decide +kernel) rfl : e_Sn 96 48 (o_dup 49)) t_96_49 e_cg_dup
noncomputable def n_96_47 : e_Y := u_old (o_ast 2 e_okL 48) n_96_48
theorem t_96_47 : e_Sn 96 47 (e_un n_96_47) := u_oldT (s_last hq_96 (by decide +kernel) rfl : e_Sn 96 47 (o_ast 2 e_okL 48)) t_96_48 (e_cg_ast 2 e_okL)
noncomputable def n_96_46 : e_Y := u_push (e_L 9223372036854775808) n_96_47
theorem t_96_46 : e_Sn 96 46 (e_un n_96_46) := u_pushT (s_lconst (n := 0) hq_96 (by decide +kernel) rfl ⟨by decide +kernel, by decide +kernel⟩ : e_Sn 96 46 (o_push (e_L 9223372036854775808) 47)) t_96_47
noncomputable def n_96_44 : e_Y := u_push (.inl 2147483656) n_96_46
theorem t_96_44 : e_Sn 96 44 (e_un n_96_44) := u_pushT (s_bipush (n := (8)) hq_96 (by decide +kernel) rfl ⟨by decide +kernel, by decide +kernel⟩ : e_Sn 96 44 (o_push (.inl 2147483656) 46)) t_96_46
noncomputable def n_96_43 : e_Y := u_old (o_dup 44) n_96_44
theorem t_96_43 : e_Sn 96 43 (e_un n_96_43) := u_oldT (s_dup hq_96 (by decide +kernel) rfl : e_Sn 96 43 (o_dup 44)) t_96_44 e_cg_dup
noncomputable def n_96_42 : e_Y := u_old (o_ast 2 e_okL 43) n_96_43
theorem t_96_42 : e_Sn 96 42 (e_un n_96_42) := u_oldT (s_last hq_96 (by decide +kernel) rfl : e_Sn 96 42 (o_ast 2 e_okL 43)) t_96_43 (e_cg_ast 2 e_okL)
noncomputable def n_96_41 : e_Y := u_push (e_L 9223372036854775809) n_96_42
theorem t_96_41 : e_Sn 96 41 (e_un n_96_41) := u_pushT (s_lconst (n := 1) hq_96 (by decide +kernel) rfl ⟨by decide +kernel, by decide +kernel⟩ : e_Sn 96 41 (o_push (e_L 9223372036854775809) 42)) t_96_42
noncomputable def n_96_39 : e_Y := u_push (.inl 2147483655) n_96_41
theorem t_96_39 : e_Sn 96 39 (e_un n_96_39) := u_pushT (s_bipush (n := (7)) hq_96 (by decide +kernel) rfl ⟨by decide +kernel, by decide +kernel⟩ : e_Sn 96 39 (o_push (.inl 2147483655) 41)) t_96_41
noncomputable def n_96_38 : e_Y := u_old (o_dup 39) n_96_39
theorem t_96_38 : e_Sn 96 38 (e_un n_96_38) := u_oldT (s_dup hq_96 (by decide +kernel) rfl : e_Sn 96 38 (o_dup 39)) t_96_39 e_cg_dup
noncomputable def n_96_37 : e_Y := u_old (o_ast 2 e_okL 38) n_96_38
theorem t_96_37 : e_Sn 96 37 (e_un n_96_37) := u_oldT (s_last hq_96 (by decide +kernel) rfl : e_Sn 96 37 (o_ast 2 e_okL 38)) t_96_38 (e_cg_ast 2 e_okL)
noncomputable def n_96_36 : e_Y := u_push (e_L 9223372036854775809) n_96_37
theorem t_96_36 : e_Sn 96 36 (e_un n_96_36) := u_pushT (s_lconst (n := 1) hq_96 (by decide +kernel) rfl ⟨by decide +kernel, by decide +kernel⟩ : e_Sn 96 36 (o_push (e_L 9223372036854775809) 37)) t_96_37
noncomputable def n_96_34 : e_Y := u_push (.inl 2147483654) n_96_36
theorem t_96_34 : e_Sn 96 34 (e_un n_96_34) := u_pushT (s_bipush (n := (6)) hq_96 (by decide +kernel) rfl ⟨by decide +kernel, by decide +kernel⟩ : e_Sn 96 34 (o_push (.inl 2147483654) 36)) t_96_36
noncomputable def n_96_33 : e_Y := u_old (o_dup 34) n_96_34
theorem t_96_33 : e_Sn 96 33 (e_un n_96_33) := u_oldT (s_dup hq_96 (by decide +kernel) rfl : e_Sn 96 33 (o_dup 34)) t_96_34 e_cg_dup
noncomputable def n_96_32 : e_Y := u_old (o_ast 2 e_okL 33) n_96_33
theorem t_96_32 : e_Sn 96 32 (e_un n_96_32) := u_oldT (s_last hq_96 (by decide +kernel) rfl : e_Sn 96 32 (o_ast 2 e_okL 33)) t_96_33 (e_cg_ast 2 e_okL)
noncomputable def n_96_31 : e_Y := u_push (e_L 9223372036854775809) n_96_32
theorem t_96_31 : e_Sn 96 31 (e_un n_96_31) := u_pushT (s_lconst (n := 1) hq_96 (by decide +kernel) rfl ⟨by decide +kernel, by decide +kernel⟩ : e_Sn 96 31 (o_push (e_L 9223372036854775809) 32)) t_96_32
noncomputable def n_96_30 : e_Y := u_push (.inl 2147483653) n_96_31
theorem t_96_30 : e_Sn 96 30 (e_un n_96_30) := u_pushT (s_iconst (n := (5)) hq_96 (by decide +kernel) rfl ⟨by decide +kernel, by decide +kernel⟩ : e_Sn 96 30 (o_push (.inl 2147483653) 31)) t_96_31
noncomputable def n_96_29 : e_Y := u_old (o_dup 30) n_96_30
theorem t_96_29 : e_Sn 96 29 (e_un n_96_29) := u_oldT (s_dup hq_96 (by decide +kernel) rfl : e_Sn 96 29 (o_dup 30)) t_96_30 e_cg_dup
noncomputable def n_96_28 : e_Y := u_old (o_ast 2 e_okL 29) n_96_29
theorem t_96_28 : e_Sn 96 28 (e_un n_96_28) := u_oldT (s_last hq_96 (by decide +kernel) rfl : e_Sn 96 28 (o_ast 2 e_okL 29)) t_96_29 (e_cg_ast 2 e_okL)
noncomputable def n_96_27 : e_Y := u_push (e_L 9223372036854775808) n_96_28
theorem t_96_27 : e_Sn 96 27 (e_un n_96_27) := u_pushT (s_lconst (n := 0) hq_96 (by decide +kernel) rfl ⟨by decide +kernel, by decide +kernel⟩ : e_Sn 96 27 (o_push (e_L 9223372036854775808) 28)) t_96_28
noncomputable def n_96_26 : e_Y := u_push (.inl 2147483652) n_96_27
theorem t_96_26 : e_Sn 96 26 (e_un n_96_26) := u_pushT (s_iconst (n := (4)) hq_96 (by decide +kernel) rfl ⟨by decide +kernel, by decide +kernel⟩ : e_Sn 96 26 (o_push (.inl 2147483652) 27)) t_96_27
noncomputable def n_96_25 : e_Y := u_old (o_dup 26) n_96_26
theorem t_96_25 : e_Sn 96 25 (e_un n_96_25) := u_oldT (s_dup hq_96 (by decide +kernel) rfl : e_Sn 96 25 (o_dup 26)) t_96_26 e_cg_dup
noncomputable def n_96_24 : e_Y := u_old (o_ast 2 e_okL 25) n_96_25
theorem t_96_24 : e_Sn 96 24 (e_un n_96_24) := u_oldT (s_last hq_96 (by decide +kernel) rfl : e_Sn 96 24 (o_ast 2 e_okL 25)) t_96_25 (e_cg_ast 2 e_okL)
noncomputable def n_96_23 : e_Y := u_push (e_L 9223372036854775809) n_96_24
theorem t_96_23 : e_Sn 96 23 (e_un n_96_23) := u_pushT (s_lconst (n := 1) hq_96 (by decide +kernel) rfl ⟨by decide +kernel, by decide +kernel⟩ : e_Sn 96 23 (o_push (e_L 9223372036854775809) 24)) t_96_24
noncomputable def n_96_22 : e_Y := u_push (.inl 2147483651) n_96_23
theorem t_96_22 : e_Sn 96 22 (e_un n_96_22) := u_pushT (s_iconst (n := (3)) hq_96 (by decide +kernel) rfl ⟨by decide +kernel, by decide +kernel⟩ : e_Sn 96 22 (o_push (.inl 2147483651) 23)) t_96_23
noncomputable def n_96_21 : e_Y := u_old (o_dup 22) n_96_22
theorem t_96_21 : e_Sn 96 21 (e_un n_96_21) := u_oldT (s_dup hq_96 (by decide +kernel) rfl : e_Sn 96 21 (o_dup 22)) t_96_22 e_cg_dup
noncomputable def n_96_20 : e_Y := u_old (o_ast 2 e_okL 21) n_96_21
theorem t_96_20 : e_Sn 96 20 (e_un n_96_20) := u_oldT (s_last hq_96 (by decide +kernel) rfl : e_Sn 96 20 (o_ast 2 e_okL 21)) t_96_21 (e_cg_ast 2 e_okL)
noncomputable def n_96_19 : e_Y := u_push (e_L 9223372036854775808) n_96_20
theorem t_96_19 : e_Sn 96 19 (e_un n_96_19) := u_pushT (s_lconst (n := 0) hq_96 (by decide +kernel) rfl ⟨by decide +kernel, by decide +kernel⟩ : e_Sn 96 19 (o_push (e_L 9223372036854775808) 20)) t_96_20
noncomputable def n_96_18 : e_Y := u_push (.inl 2147483650) n_96_19
theorem t_96_18 : e_Sn 96 18 (e_un n_96_18) := u_pushT (s_iconst (n := (2)) hq_96 (by decide +kernel) rfl ⟨by decide +kernel, by decide +kernel⟩ : e_Sn 96 18 (o_push (.inl 2147483650) 19)) t_96_19
noncomputable def n_96_17 : e_Y := u_old (o_dup 18) n_96_18
theorem t_96_17 : e_Sn 96 17 (e_un n_96_17) := u_oldT (s_dup hq_96 (by decide +kernel) rfl : e_Sn 96 17 (o_dup 18)) t_96_18 e_cg_dup
noncomputable def n_96_16 : e_Y := u_old (o_ast 2 e_okL 17) n_96_17
theorem t_96_16 : e_Sn 96 16 (e_un n_96_16) := u_oldT (s_last hq_96 (by decide +kernel) rfl : e_Sn 96 16 (o_ast 2 e_okL 17)) t_96_17 (e_cg_ast 2 e_okL)
noncomputable def n_96_15 : e_Y := u_push (e_L 9223372036854775809) n_96_16
theorem t_96_15 : e_Sn 96 15 (e_un n_96_15) := u_pushT (s_lconst (n := 1) hq_96 (by decide +kernel) rfl ⟨by decide +kernel, by decide +kernel⟩ : e_Sn 96 15 (o_push (e_L 9223372036854775809) 16)) t_96_16
noncomputable def n_96_14 : e_Y := u_push (.inl 2147483649) n_96_15
theorem t_96_14 : e_Sn 96 14 (e_un n_96_14) := u_pushT (s_iconst (n := (1)) hq_96 (by decide +kernel) rfl ⟨by decide +kernel, by decide +kernel⟩ : e_Sn 96 14 (o_push (.inl 2147483649) 15)) t_96_15
noncomputable def n_96_13 : e_Y := u_old (o_dup 14) n_96_14
theorem t_96_13 : e_Sn 96 13 (e_un n_96_13) := u_oldT (s_dup hq_96 (by decide +kernel) rfl : e_Sn 96 13 (o_dup 14)) t_96_14 e_cg_dup
noncomputable def n_96_12 : e_Y := u_old (o_ast 2 e_okL 13) n_96_13
theorem t_96_12 : e_Sn 96 12 (e_un n_96_12) := u_oldT (s_last hq_96 (by decide +kernel) rfl : e_Sn 96 12 (o_ast 2 e_okL 13)) t_96_13 (e_cg_ast 2 e_okL)
noncomputable def n_96_11 : e_Y := u_push (e_L 9223372036854775809) n_96_12
theorem t_96_11 : e_Sn 96 11 (e_un n_96_11) := u_pushT (s_lconst (n := 1) hq_96 (by decide +kernel) rfl ⟨by decide +kernel, by decide +kernel⟩ : e_Sn 96 11 (o_push (e_L 9223372036854775809) 12)) t_96_12
noncomputable def n_96_10 : e_Y := u_push (.inl 2147483648) n_96_11
theorem t_96_10 : e_Sn 96 10 (e_un n_96_10) := u_pushT (s_iconst (n := (0)) hq_96 (by decide +kernel) rfl ⟨by decide +kernel, by decide +kernel⟩ : e_Sn 96 10 (o_push (.inl 2147483648) 11)) t_96_11
noncomputable def n_96_9 : e_Y := u_old (o_dup 10) n_96_10
theorem t_96_9 : e_Sn 96 9 (e_un n_96_9) := u_oldT (s_dup hq_96 (by decide +kernel) rfl : e_Sn 96 9 (o_dup 10)) t_96_10 e_cg_dup
noncomputable def n_96_7 : e_Y := u_tab (o_newa 2 (e_L 9223372036854775808) 9)
theorem t_96_7 : e_Sn 96 7 (e_un n_96_7) := u_tabT (s_newJ (List.mem_of_getElem? (i := 279) (by decide +kernel)) hq_96 (by decide +kernel) rfl : e_Sn 96 7 (o_newa 2 (e_L 9223372036854775808) 9))
noncomputable def n_96_5 : e_Y := u_push (.inl 2147483660) n_96_7
theorem t_96_5 : e_Sn 96 5 (e_un n_96_5) := u_pushT (s_bipush (n := (12)) hq_96 (by decide +kernel) rfl ⟨by decide +kernel, by decide +kernel⟩ : e_Sn 96 5 (o_push (.inl 2147483660) 7)) t_96_7
noncomputable def n_96_4 : e_Y := u_ld f_okA f_l0 n_96_5
theorem t_96_4 : e_Sn 96 4 (e_un n_96_4) := u_ldAT f_l0_eq (s_aload (i := .aload_n 0) (len := 1) hq_96 (by decide +kernel) rfl (.inr ⟨0, rfl, rfl, rfl⟩) : e_Sn 96 4 (o_load e_okR 0 5)) t_96_5
noncomputable def n_96_1 : e_Y := u_tab (o_oinit 4)
theorem t_96_1 : e_Sn 96 1 (e_un n_96_1) := u_tabT (s_oinit (idx := 3) hq_96 ho_96 (List.mem_of_getElem? (i := 1786) (by decide +kernel)) (List.mem_of_getElem? (i := 190) (by decide +kernel)) (List.mem_of_getElem? (i := 191) (by decide +kernel)) (by decide +kernel) rfl : e_Sn 96 1 (o_oinit 4))
noncomputable def n_96_0 : e_Y := u_ld f_okA f_l0 n_96_1
theorem t_96_0 : e_Sn 96 0 (e_un n_96_0) := u_ldAT f_l0_eq (s_aload (i := .aload_n 0) (len := 1) hq_96 (by decide +kernel) rfl (.inr ⟨0, rfl, rfl, rfl⟩) : e_Sn 96 0 (o_load e_okR 0 1)) t_96_1
noncomputable def e_tb_96 : e_X := (e_br 74 (e_br 9 (e_br 4 (e_lf 0 (e_un n_96_0)) (e_lf 4 (e_un n_96_4))) (e_br 70 (e_lf 9 (e_un n_96_9)) (e_lf 70 (e_un n_96_70)))) (e_br 90 (e_br 83 (e_lf 74 (e_un n_96_74)) (e_lf 83 (e_un n_96_83))) (e_br 114 (e_lf 90 (e_un n_96_90)) (e_br 135 (e_lf 114 (e_un n_96_114)) (e_lf 135 (e_un n_96_135))))))
theorem e_tk_96 : e_Tb 96 e_tb_96 := (e_brT (e_brT (e_brT (e_lfT t_96_0) (e_lfT t_96_4)) (e_brT (e_lfT t_96_9) (e_lfT t_96_70))) (e_brT (e_brT (e_lfT t_96_74) (e_lfT t_96_83)) (e_brT (e_lfT t_96_90) (e_brT (e_lfT t_96_114) (e_lfT t_96_135)))))
theorem hq_109 : (e_ml[109]?).map (·.2.1) = some prog_50_method_6_code := rfl
theorem ho_109 : (e_ml[109]?).map (·.1.cls) = some "java/util/ArrayList" := rfl
theorem hr_109 : (e_ml[109]?).map (·.2.2.2) = some (some (.array (.object "java/lang/Object"))) := rfl
noncomputable def n_109_59 : e_Y := u_retA
theorem t_109_59 : e_Sn 109 59 (e_un n_109_59) := u_retAT (s_aret (.inr ⟨_, rfl⟩) hq_109 hr_109 (by decide +kernel) : e_Sn 109 59 (o_ret e_okR))
noncomputable def n_109_56 : e_Y := u_old (o_putf (e_f1 19 0) e_okR 59) n_109_59
theorem t_109_56 : e_Sn 109 56 (e_un n_109_56) := u_oldT (s_putf (ty0 := ey_19) (ok := e_okR) (C := er_19) (T := et_19) (N := 3) (ref := "java/util/ArrayList") (index := 9) (ci := 19) (k := 0) hq_109 ho_109 ⟨rfl, by decide, ei_19, (List.mem_of_getElem? (i := 1764) (by decide +kernel)), .inl rfl⟩ eo_19 en_19 e_oksA (.inl rfl) (by decide +kernel) rfl : e_Sn 109 56 (o_putf (e_f1 19 0) e_okR 59)) t_109_59 (e_cg_putf (e_f1 19 0) e_okR)
noncomputable def n_109_55 : e_Y := u_old (o_dup_x1 56) n_109_56
theorem t_109_55 : e_Sn 109 55 (e_un n_109_55) := u_oldT (s_dup_x1 hq_109 (by decide +kernel) rfl : e_Sn 109 55 (o_dup_x1 56)) t_109_56 e_cg_dup_x1
noncomputable def n_109_52 : e_Y := u_tab (o_newa 3 e_N 55)
theorem t_109_52 : e_Sn 109 52 (e_un n_109_52) := u_tabT (s_newR (tc := 0) (index := 7) (E := "java/lang/Object") rfl ho_109 (List.mem_of_getElem? (i := 1889) (by decide +kernel)) (fun s h => h _ (List.mem_filter.mpr ⟨(List.mem_of_getElem? (i := 1884) (by decide +kernel)), rfl⟩)) hq_109 (by decide +kernel) rfl : e_Sn 109 52 (o_newa 3 e_N 55))
noncomputable def n_109_49 : e_Y := u_tab (o_mmax 52)
theorem t_109_49 : e_Sn 109 49 (e_un n_109_49) := u_tabT (s_mmax (index := 79) hq_109 ho_109 (List.mem_of_getElem? (i := 1888) (by decide +kernel)) (List.mem_of_getElem? (i := 229) (by decide +kernel)) (List.mem_of_getElem? (i := 142) (by decide +kernel)) (List.mem_of_getElem? (i := 230) (by decide +kernel)) (by decide +kernel) rfl : e_Sn 109 49 (o_mmax 52))
noncomputable def n_109_48 : e_Y := u_ld f_okI f_l1 n_109_49
theorem t_109_48 : e_Sn 109 48 (e_un n_109_48) := u_ldIT f_l1_eq (s_iload (i := .iload_n 1) (len := 1) hq_109 (by decide +kernel) rfl (.inr ⟨1, rfl, rfl, rfl⟩) : e_Sn 109 48 (o_load e_okI 1 49)) t_109_49
noncomputable def n_109_46 : e_Y := u_push (.inl 2147483658) n_109_48
theorem t_109_46 : e_Sn 109 46 (e_un n_109_46) := u_pushT (s_bipush (n := (10)) hq_109 (by decide +kernel) rfl ⟨by decide +kernel, by decide +kernel⟩ : e_Sn 109 46 (o_push (.inl 2147483658) 48)) t_109_48
noncomputable def n_109_45 : e_Y := u_ld f_okA f_l0 n_109_46
theorem t_109_45 : e_Sn 109 45 (e_un n_109_45) := u_ldAT f_l0_eq (s_aload (i := .aload_n 0) (len := 1) hq_109 (by decide +kernel) rfl (.inr ⟨0, rfl, rfl, rfl⟩) : e_Sn 109 45 (o_load e_okR 0 46)) t_109_46
noncomputable def n_109_17 : e_Y := u_tab (o_acmp 45 20)
theorem t_109_17 : e_Sn 109 17 (e_un n_109_17) := u_tabT (s_acmpeq (off := (28)) hq_109 (by decide +kernel) rfl rfl : e_Sn 109 17 (o_acmp 45 20))
noncomputable def n_109_14 : e_Y := u_push (e_B 3) n_109_17
theorem t_109_14 : e_Sn 109 14 (e_un n_109_14) := u_pushT (s_gets (k := 3) (index := 39) (C := "java/util/ArrayList") (f := "DEFAULTCAPACITY_EMPTY_ELEMENTDATA") (d := "[Ljava/lang/Object;") hq_109 ho_109 (List.mem_of_getElem? (i := 1762) (by decide +kernel)) (by simp [e_sv]) (by decide +kernel) rfl : e_Sn 109 14 (o_push (e_B 3) 17)) t_109_17
noncomputable def n_109_11 : e_Y := u_getf 19 0 (u_old (o_getf (e_f1 19 0) 14) n_109_14) n_109_14
theorem t_109_11 : e_Sn 109 11 (e_un n_109_11) := u_getfT (s_getf (C := er_19) (T := et_19) (N := 3) (ref := "java/util/ArrayList") (index := 9) (ci := 19) (k := 0) hq_109 ho_109 ⟨rfl, by decide, ei_19, (List.mem_of_getElem? (i := 1764) (by decide +kernel)), .inl rfl⟩ (by decide +kernel) rfl : e_Sn 109 11 (o_getf (e_f1 19 0) 14)) t_109_14
noncomputable def n_109_10 : e_Y := u_ld f_okA f_l0 n_109_11
theorem t_109_10 : e_Sn 109 10 (e_un n_109_10) := u_ldAT f_l0_eq (s_aload (i := .aload_n 0) (len := 1) hq_109 (by decide +kernel) rfl (.inr ⟨0, rfl, rfl, rfl⟩) : e_Sn 109 10 (o_load e_okR 0 11)) t_109_11
noncomputable def n_109_7 : e_Y := u_if y_le0 (u_old2 (o_ifgt 20 10) 20 (u_at 20) n_109_10) (u_at 20) n_109_10
theorem t_109_7 : e_Sn 109 7 (e_un n_109_7) := u_ifgtT rfl (s_ifgt (off := (13)) hq_109 (by decide +kernel) rfl rfl : e_Sn 109 7 (o_ifgt 20 10)) u_atT t_109_10
noncomputable def n_109_6 : e_Y := u_ld f_okI f_l2 n_109_7
theorem t_109_6 : e_Sn 109 6 (e_un n_109_6) := u_ldIT f_l2_eq (s_iload (i := .iload_n 2) (len := 1) hq_109 (by decide +kernel) rfl (.inr ⟨2, rfl, rfl, rfl⟩) : e_Sn 109 6 (o_load e_okI 2 7)) t_109_7
noncomputable def n_109_5 : e_Y := u_st f_okI f_s2 n_109_6
theorem t_109_5 : e_Sn 109 5 (e_un n_109_5) := u_stIT (fun _ _ _ => f_s2_eq) (s_istore (i := .istore_n 2) (len := 1) hq_109 (by decide +kernel) rfl (.inr ⟨2, rfl, rfl, rfl⟩) : e_Sn 109 5 (o_store e_okI 2 6)) t_109_6
noncomputable def n_109_4 : e_Y := u_old (o_alen e_fcs 5) n_109_5
theorem t_109_4 : e_Sn 109 4 (e_un n_109_4) := u_oldT (s_alen hq_109 (by decide +kernel) rfl : e_Sn 109 4 (o_alen e_fcs 5)) t_109_5 (e_cg_alen e_fcs)
noncomputable def n_109_1 : e_Y := u_getf 19 0 (u_old (o_getf (e_f1 19 0) 4) n_109_4) n_109_4
theorem t_109_1 : e_Sn 109 1 (e_un n_109_1) := u_getfT (s_getf (C := er_19) (T := et_19) (N := 3) (ref := "java/util/ArrayList") (index := 9) (ci := 19) (k := 0) hq_109 ho_109 ⟨rfl, by decide, ei_19, (List.mem_of_getElem? (i := 1764) (by decide +kernel)), .inl rfl⟩ (by decide +kernel) rfl : e_Sn 109 1 (o_getf (e_f1 19 0) 4)) t_109_4
noncomputable def n_109_0 : e_Y := u_ld f_okA f_l0 n_109_1
theorem t_109_0 : e_Sn 109 0 (e_un n_109_0) := u_ldAT f_l0_eq (s_aload (i := .aload_n 0) (len := 1) hq_109 (by decide +kernel) rfl (.inr ⟨0, rfl, rfl, rfl⟩) : e_Sn 109 0 (o_load e_okR 0 1)) t_109_1
noncomputable def e_tb_109 : e_X := (e_br 52 (e_br 45 (e_lf 0 (e_un n_109_0)) (e_lf 45 (e_un n_109_45))) (e_br 55 (e_lf 52 (e_un n_109_52)) (e_lf 55 (e_un n_109_55))))
theorem e_tk_109 : e_Tb 109 e_tb_109 := (e_brT (e_brT (e_lfT t_109_0) (e_lfT t_109_45)) (e_brT (e_lfT t_109_52) (e_lfT t_109_55)))
theorem hq_108 : (e_ml[108]?).map (·.2.1) = some prog_50_method_7_code := rfl
theorem ho_108 : (e_ml[108]?).map (·.1.cls) = some "java/util/ArrayList" := rfl
theorem hr_108 : (e_ml[108]?).map (·.2.2.2) = some (some (.array (.object "java/lang/Object"))) := rfl
noncomputable def n_108_10 : e_Y := u_retA
theorem t_108_10 : e_Sn 108 10 (e_un n_108_10) := u_retAT (s_aret (.inr ⟨_, rfl⟩) hq_108 hr_108 (by decide +kernel) : e_Sn 108 10 (o_ret e_okR))
noncomputable def n_108_7 : e_Y := u_callV 19 109 4 23 2 n_109_0 n_108_10
theorem t_108_7 : e_Sn 108 7 (e_un n_108_7) := u_callVT rfl (s_callV (ci := 19) (C := er_19) (T := et_19) (N := 3) (index := 69) hq_108 ho_108 hy_109 hp_109 hc_109 hi_109 hd_109 (List.mem_of_getElem? (i := 1832) (by decide +kernel)) hs_109 (List.mem_of_getElem? (i := 72) (by decide +kernel)) rfl (by decide +kernel) rfl : e_Sn 108 7 (o_callV (e_s1 19 109 4) 2 10)) t_109_0 t_108_10
noncomputable def n_108_6 : e_Y := u_bin a_iadd (u_old (o_iadd 7) n_108_7) n_108_7
theorem t_108_6 : e_Sn 108 6 (e_un n_108_6) := u_iaddT (s_iadd hq_108 (by decide +kernel) rfl : e_Sn 108 6 (o_iadd 7)) t_108_7
noncomputable def n_108_5 : e_Y := u_push (.inl 2147483649) n_108_6
theorem t_108_5 : e_Sn 108 5 (e_un n_108_5) := u_pushT (s_iconst (n := (1)) hq_108 (by decide +kernel) rfl ⟨by decide +kernel, by decide +kernel⟩ : e_Sn 108 5 (o_push (.inl 2147483649) 6)) t_108_6
noncomputable def n_108_2 : e_Y := u_getf 19 1 (u_old (o_getf (e_f1 19 1) 5) n_108_5) n_108_5
theorem t_108_2 : e_Sn 108 2 (e_un n_108_2) := u_getfT (s_getf (C := er_19) (T := et_19) (N := 3) (ref := "java/util/ArrayList") (index := 48) (ci := 19) (k := 1) hq_108 ho_108 ⟨rfl, by decide, ei_19, (List.mem_of_getElem? (i := 1767) (by decide +kernel)), .inl rfl⟩ (by decide +kernel) rfl : e_Sn 108 2 (o_getf (e_f1 19 1) 5)) t_108_5
noncomputable def n_108_1 : e_Y := u_ld f_okA f_l0 n_108_2
theorem t_108_1 : e_Sn 108 1 (e_un n_108_1) := u_ldAT f_l0_eq (s_aload (i := .aload_n 0) (len := 1) hq_108 (by decide +kernel) rfl (.inr ⟨0, rfl, rfl, rfl⟩) : e_Sn 108 1 (o_load e_okR 0 2)) t_108_2
noncomputable def n_108_0 : e_Y := u_ld f_okA f_l0 n_108_1
theorem t_108_0 : e_Sn 108 0 (e_un n_108_0) := u_ldAT f_l0_eq (s_aload (i := .aload_n 0) (len := 1) hq_108 (by decide +kernel) rfl (.inr ⟨0, rfl, rfl, rfl⟩) : e_Sn 108 0 (o_load e_okR 0 1)) t_108_1
noncomputable def e_tb_108 : e_X := (e_lf 0 (e_un n_108_0))
theorem e_tk_108 : e_Tb 108 e_tb_108 := (e_lfT t_108_0)
theorem hq_104 : (e_ml[104]?).map (·.2.1) = some prog_50_method_24_code := rfl
theorem ho_104 : (e_ml[104]?).map (·.1.cls) = some "java/util/ArrayList" := rfl
theorem hr_104 : (e_ml[104]?).map (·.2.2.2) = some none := rfl
noncomputable def n_104_22 : e_Y := u_tab (o_retv)
theorem t_104_22 : e_Sn 104 22 (e_un n_104_22) := u_tabT (s_vret hq_104 hr_104 (by decide +kernel) : e_Sn 104 22 (o_retv))
noncomputable def n_104_19 : e_Y := u_old (o_putf (e_f1 19 1) e_okI 22) n_104_22
theorem t_104_19 : e_Sn 104 19 (e_un n_104_19) := u_oldT (s_putf (ty0 := ey_19) (ok := e_okI) (C := er_19) (T := et_19) (N := 3) (ref := "java/util/ArrayList") (index := 48) (ci := 19) (k := 1) hq_104 ho_104 ⟨rfl, by decide, ei_19, (List.mem_of_getElem? (i := 1767) (by decide +kernel)), .inl rfl⟩ eo_19 en_19 e_oksI (.inl rfl) (by decide +kernel) rfl : e_Sn 104 19 (o_putf (e_f1 19 1) e_okI 22)) t_104_22 (e_cg_putf (e_f1 19 1) e_okI)
noncomputable def n_104_18 : e_Y := u_bin a_iadd (u_old (o_iadd 19) n_104_19) n_104_19
theorem t_104_18 : e_Sn 104 18 (e_un n_104_18) := u_iaddT (s_iadd hq_104 (by decide +kernel) rfl : e_Sn 104 18 (o_iadd 19)) t_104_19
noncomputable def n_104_17 : e_Y := u_push (.inl 2147483649) n_104_18
theorem t_104_17 : e_Sn 104 17 (e_un n_104_17) := u_pushT (s_iconst (n := (1)) hq_104 (by decide +kernel) rfl ⟨by decide +kernel, by decide +kernel⟩ : e_Sn 104 17 (o_push (.inl 2147483649) 18)) t_104_18
noncomputable def n_104_16 : e_Y := u_ld f_okI f_l3 n_104_17
theorem t_104_16 : e_Sn 104 16 (e_un n_104_16) := u_ldIT f_l3_eq (s_iload (i := .iload_n 3) (len := 1) hq_104 (by decide +kernel) rfl (.inr ⟨3, rfl, rfl, rfl⟩) : e_Sn 104 16 (o_load e_okI 3 17)) t_104_17
noncomputable def n_104_15 : e_Y := u_ld f_okA f_l0 n_104_16
theorem t_104_15 : e_Sn 104 15 (e_un n_104_15) := u_ldAT f_l0_eq (s_aload (i := .aload_n 0) (len := 1) hq_104 (by decide +kernel) rfl (.inr ⟨0, rfl, rfl, rfl⟩) : e_Sn 104 15 (o_load e_okR 0 16)) t_104_16
noncomputable def n_104_14 : e_Y := u_old (o_astR 3 (fun k => Nat.beq k 13 || Nat.beq k 15 || Nat.beq k 100) 15) n_104_15
theorem t_104_14 : e_Sn 104 14 (e_un n_104_14) := u_oldT (s_aast (tc := 0) (E := "java/lang/Object") hq_104 rfl (by decide) (fun k hk => by
  simp only [Bool.or_eq_true, Nat.beq_eq] at hk
  rcases hk with ((rfl | rfl) | rfl) <;> first | exact ⟨er_13, rfl, .inr (List.mem_of_getElem? (i := 3171) (by decide +kernel))⟩ | exact ⟨er_15, rfl, .inr (List.mem_of_getElem? (i := 3191) (by decide +kernel))⟩ | exact ⟨"[I", rfl, .inr (List.mem_of_getElem? (i := 3202) (by decide +kernel))⟩) (by decide +kernel) rfl : e_Sn 104 14 (o_astR 3 (fun k => Nat.beq k 13 || Nat.beq k 15 || Nat.beq k 100) 15)) t_104_15 (e_cg_astR 3 (fun k => Nat.beq k 13 || Nat.beq k 15 || Nat.beq k 100))
noncomputable def n_104_13 : e_Y := u_ld f_okA f_l1 n_104_14
theorem t_104_13 : e_Sn 104 13 (e_un n_104_13) := u_ldAT f_l1_eq (s_aload (i := .aload_n 1) (len := 1) hq_104 (by decide +kernel) rfl (.inr ⟨1, rfl, rfl, rfl⟩) : e_Sn 104 13 (o_load e_okR 1 14)) t_104_14
noncomputable def n_104_12 : e_Y := u_ld f_okI f_l3 n_104_13
theorem t_104_12 : e_Sn 104 12 (e_un n_104_12) := u_ldIT f_l3_eq (s_iload (i := .iload_n 3) (len := 1) hq_104 (by decide +kernel) rfl (.inr ⟨3, rfl, rfl, rfl⟩) : e_Sn 104 12 (o_load e_okI 3 13)) t_104_13
noncomputable def n_104_11 : e_Y := u_ld f_okA f_l2 n_104_12
theorem t_104_11 : e_Sn 104 11 (e_un n_104_11) := u_ldAT f_l2_eq (s_aload (i := .aload_n 2) (len := 1) hq_104 (by decide +kernel) rfl (.inr ⟨2, rfl, rfl, rfl⟩) : e_Sn 104 11 (o_load e_okR 2 12)) t_104_12
noncomputable def n_104_10 : e_Y := u_st f_okA f_s2 n_104_11
theorem t_104_10 : e_Sn 104 10 (e_un n_104_10) := u_stAT (fun _ _ _ => f_s2_eq) (s_astore (i := .astore_n 2) (len := 1) hq_104 (by decide +kernel) rfl (.inr ⟨2, rfl, rfl, rfl⟩) : e_Sn 104 10 (o_store e_okR 2 11)) t_104_11
noncomputable def n_104_7 : e_Y := u_callV 19 108 1 20 1 n_108_0 n_104_10
theorem t_104_7 : e_Sn 104 7 (e_un n_104_7) := u_callVT rfl (s_callV (ci := 19) (C := er_19) (T := et_19) (N := 3) (index := 129) hq_104 ho_104 hy_108 hp_108 hc_108 hi_108 hd_108 (List.mem_of_getElem? (i := 1828) (by decide +kernel)) hs_108 (List.mem_of_getElem? (i := 71) (by decide +kernel)) rfl (by decide +kernel) rfl : e_Sn 104 7 (o_callV (e_s1 19 108 1) 1 10)) t_108_0 t_104_10
noncomputable def n_104_6 : e_Y := u_ld f_okA f_l0 n_104_7
theorem t_104_6 : e_Sn 104 6 (e_un n_104_6) := u_ldAT f_l0_eq (s_aload (i := .aload_n 0) (len := 1) hq_104 (by decide +kernel) rfl (.inr ⟨0, rfl, rfl, rfl⟩) : e_Sn 104 6 (o_load e_okR 0 7)) t_104_7
noncomputable def n_104_3 : e_Y := u_jmp y_ne (u_old2 (o_ceq 6 11) 6 n_104_6 n_104_11) n_104_6 n_104_11
theorem t_104_3 : e_Sn 104 3 (e_un n_104_3) := u_ceqT rfl (s_cne (off := (8)) hq_104 (by decide +kernel) rfl rfl : e_Sn 104 3 (o_ceq 6 11)) t_104_6 t_104_11
noncomputable def n_104_2 : e_Y := u_old (o_alen e_fcs 3) n_104_3
theorem t_104_2 : e_Sn 104 2 (e_un n_104_2) := u_oldT (s_alen hq_104 (by decide +kernel) rfl : e_Sn 104 2 (o_alen e_fcs 3)) t_104_3 (e_cg_alen e_fcs)
noncomputable def n_104_1 : e_Y := u_ld f_okA f_l2 n_104_2
theorem t_104_1 : e_Sn 104 1 (e_un n_104_1) := u_ldAT f_l2_eq (s_aload (i := .aload_n 2) (len := 1) hq_104 (by decide +kernel) rfl (.inr ⟨2, rfl, rfl, rfl⟩) : e_Sn 104 1 (o_load e_okR 2 2)) t_104_2
noncomputable def n_104_0 : e_Y := u_ld f_okI f_l3 n_104_1
theorem t_104_0 : e_Sn 104 0 (e_un n_104_0) := u_ldIT f_l3_eq (s_iload (i := .iload_n 3) (len := 1) hq_104 (by decide +kernel) rfl (.inr ⟨3, rfl, rfl, rfl⟩) : e_Sn 104 0 (o_load e_okI 3 1)) t_104_1
noncomputable def e_tb_104 : e_X := (e_lf 0 (e_un n_104_0))
theorem e_tk_104 : e_Tb 104 e_tb_104 := (e_lfT t_104_0)
end SN
