/-! TABLES, by program -/
section SN
theorem hq_6 : (e_ml[6]?).map (·.2.1) = some prog_2_method_1_code := rfl
theorem ho_6 : (e_ml[6]?).map (·.1.cls) = some "Plateroomprinter$Code" := rfl
theorem hr_6 : (e_ml[6]?).map (·.2.2.2) = some none := rfl
noncomputable def n_6_22 : e_Y := u_tab (o_retv)
theorem t_6_22 : e_Sn 6 22 (e_un n_6_22) := u_tabT (s_vret hq_6 hr_6 (by decide +kernel) : e_Sn 6 22 (o_retv))
noncomputable def n_6_19 : e_Y := u_old (o_putf (e_f1 1 1) e_okR 22) n_6_22
theorem t_6_19 : e_Sn 6 19 (e_un n_6_19) := u_oldT (s_putf (ty0 := ey_1) (ok := e_okR) (C := er_1) (T := et_1) (N := 4) (ref := "Plateroomprinter$Code") (index := 15) (ci := 1) (k := 1) hq_6 ho_6 ⟨rfl, by decide, ei_1, (List.mem_of_getElem? (i := 199) (by decide +kernel)), .inl rfl⟩ eo_1 en_1 e_oksA (.inr ⟨rfl, rfl, rfl⟩) (by decide +kernel) rfl : e_Sn 6 19 (o_putf (e_f1 1 1) e_okR 22)) t_6_22 (e_cg_putf (e_f1 1 1) e_okR)
noncomputable def n_6_17 : e_Y := u_tab (o_newa 0 (e_I 2147483648) 19)
theorem t_6_17 : e_Sn 6 17 (e_un n_6_17) := u_tabT (s_newI (List.mem_of_getElem? (i := 215) (by decide +kernel)) hq_6 (by decide +kernel) rfl : e_Sn 6 17 (o_newa 0 (e_I 2147483648) 19))
noncomputable def n_6_14 : e_Y := u_push (.inl 2147485648) n_6_17
theorem t_6_14 : e_Sn 6 14 (e_un n_6_14) := u_pushT (s_sipush (n := (2000)) hq_6 (by decide +kernel) rfl ⟨by decide +kernel, by decide +kernel⟩ : e_Sn 6 14 (o_push (.inl 2147485648) 17)) t_6_17
noncomputable def n_6_13 : e_Y := u_ld f_okA f_l0 n_6_14
theorem t_6_13 : e_Sn 6 13 (e_un n_6_13) := u_ldAT f_l0_eq (s_aload (i := .aload_n 0) (len := 1) hq_6 (by decide +kernel) rfl (.inr ⟨0, rfl, rfl, rfl⟩) : e_Sn 6 13 (o_load e_okR 0 14)) t_6_14
noncomputable def n_6_10 : e_Y := u_old (o_putf (e_f1 1 0) e_okR 13) n_6_13
theorem t_6_10 : e_Sn 6 10 (e_un n_6_10) := u_oldT (s_putf (ty0 := ey_1) (ok := e_okR) (C := er_1) (T := et_1) (N := 4) (ref := "Plateroomprinter$Code") (index := 11) (ci := 1) (k := 0) hq_6 ho_6 ⟨rfl, by decide, ei_1, (List.mem_of_getElem? (i := 198) (by decide +kernel)), .inl rfl⟩ eo_1 en_1 e_oksA (.inr ⟨rfl, rfl, rfl⟩) (by decide +kernel) rfl : e_Sn 6 10 (o_putf (e_f1 1 0) e_okR 13)) t_6_13 (e_cg_putf (e_f1 1 0) e_okR)
noncomputable def n_6_8 : e_Y := u_tab (o_newa 0 (e_I 2147483648) 10)
theorem t_6_8 : e_Sn 6 8 (e_un n_6_8) := u_tabT (s_newI (List.mem_of_getElem? (i := 215) (by decide +kernel)) hq_6 (by decide +kernel) rfl : e_Sn 6 8 (o_newa 0 (e_I 2147483648) 10))
noncomputable def n_6_5 : e_Y := u_push (.inl 2147485648) n_6_8
theorem t_6_5 : e_Sn 6 5 (e_un n_6_5) := u_pushT (s_sipush (n := (2000)) hq_6 (by decide +kernel) rfl ⟨by decide +kernel, by decide +kernel⟩ : e_Sn 6 5 (o_push (.inl 2147485648) 8)) t_6_8
noncomputable def n_6_4 : e_Y := u_ld f_okA f_l0 n_6_5
theorem t_6_4 : e_Sn 6 4 (e_un n_6_4) := u_ldAT f_l0_eq (s_aload (i := .aload_n 0) (len := 1) hq_6 (by decide +kernel) rfl (.inr ⟨0, rfl, rfl, rfl⟩) : e_Sn 6 4 (o_load e_okR 0 5)) t_6_5
noncomputable def n_6_1 : e_Y := u_tab (o_oinit 4)
theorem t_6_1 : e_Sn 6 1 (e_un n_6_1) := u_tabT (s_oinit (idx := 3) hq_6 ho_6 (List.mem_of_getElem? (i := 197) (by decide +kernel)) (List.mem_of_getElem? (i := 190) (by decide +kernel)) (List.mem_of_getElem? (i := 191) (by decide +kernel)) (by decide +kernel) rfl : e_Sn 6 1 (o_oinit 4))
noncomputable def n_6_0 : e_Y := u_ld f_okA f_l0 n_6_1
theorem t_6_0 : e_Sn 6 0 (e_un n_6_0) := u_ldAT f_l0_eq (s_aload (i := .aload_n 0) (len := 1) hq_6 (by decide +kernel) rfl (.inr ⟨0, rfl, rfl, rfl⟩) : e_Sn 6 0 (o_load e_okR 0 1)) t_6_1
noncomputable def e_tb_6 : e_X := (e_br 10 (e_br 4 (e_lf 0 (e_un n_6_0)) (e_lf 4 (e_un n_6_4))) (e_br 19 (e_lf 10 (e_un n_6_10)) (e_lf 19 (e_un n_6_19))))
theorem e_tk_6 : e_Tb 6 e_tb_6 := (e_brT (e_brT (e_lfT t_6_0) (e_lfT t_6_4)) (e_brT (e_lfT t_6_10) (e_lfT t_6_19)))
theorem hq_12 : (e_ml[12]?).map (·.2.1) = some prog_3_method_1_code := rfl
theorem ho_12 : (e_ml[12]?).map (·.1.cls) = some "Plateroomprinter$Engine" := rfl
theorem hr_12 : (e_ml[12]?).map (·.2.2.2) = some none := rfl
noncomputable def n_12_102 : e_Y := u_tab (o_retv)
theorem t_12_102 : e_Sn 12 102 (e_un n_12_102) := u_tabT (s_vret hq_12 hr_12 (by decide +kernel) : e_Sn 12 102 (o_retv))
noncomputable def n_12_99 : e_Y := u_old (o_putf (e_f1 2 1) e_okR 102) n_12_102
theorem t_12_99 : e_Sn 12 99 (e_un n_12_99) := u_oldT (s_putf (ty0 := ey_2) (ok := e_okR) (C := er_2) (T := et_2) (N := 19) (ref := "Plateroomprinter$Engine") (index := 49) (ci := 2) (k := 1) hq_12 ho_12 ⟨rfl, by decide, ei_2, (List.mem_of_getElem? (i := 617) (by decide +kernel)), .inl rfl⟩ eo_2 en_2 e_oksR (.inr ⟨rfl, rfl, rfl⟩) (by decide +kernel) rfl : e_Sn 12 99 (o_putf (e_f1 2 1) e_okR 102)) t_12_102 (e_cg_putf (e_f1 2 1) e_okR)
noncomputable def n_12_98 : e_Y := u_ld f_okA f_l2 n_12_99
theorem t_12_98 : e_Sn 12 98 (e_un n_12_98) := u_ldAT f_l2_eq (s_aload (i := .aload_n 2) (len := 1) hq_12 (by decide +kernel) rfl (.inr ⟨2, rfl, rfl, rfl⟩) : e_Sn 12 98 (o_load e_okR 2 99)) t_12_99
noncomputable def n_12_97 : e_Y := u_ld f_okA f_l0 n_12_98
theorem t_12_97 : e_Sn 12 97 (e_un n_12_97) := u_ldAT f_l0_eq (s_aload (i := .aload_n 0) (len := 1) hq_12 (by decide +kernel) rfl (.inr ⟨0, rfl, rfl, rfl⟩) : e_Sn 12 97 (o_load e_okR 0 98)) t_12_98
noncomputable def n_12_94 : e_Y := u_old (o_putf (e_f1 2 0) e_okR 97) n_12_97
theorem t_12_94 : e_Sn 12 94 (e_un n_12_94) := u_oldT (s_putf (ty0 := ey_2) (ok := e_okR) (C := er_2) (T := et_2) (N := 19) (ref := "Plateroomprinter$Engine") (index := 45) (ci := 2) (k := 0) hq_12 ho_12 ⟨rfl, by decide, ei_2, (List.mem_of_getElem? (i := 616) (by decide +kernel)), .inl rfl⟩ eo_2 en_2 e_oksR (.inr ⟨rfl, rfl, rfl⟩) (by decide +kernel) rfl : e_Sn 12 94 (o_putf (e_f1 2 0) e_okR 97)) t_12_97 (e_cg_putf (e_f1 2 0) e_okR)
noncomputable def n_12_93 : e_Y := u_ld f_okA f_l1 n_12_94
theorem t_12_93 : e_Sn 12 93 (e_un n_12_93) := u_ldAT f_l1_eq (s_aload (i := .aload_n 1) (len := 1) hq_12 (by decide +kernel) rfl (.inr ⟨1, rfl, rfl, rfl⟩) : e_Sn 12 93 (o_load e_okR 1 94)) t_12_94
noncomputable def n_12_92 : e_Y := u_ld f_okA f_l0 n_12_93
theorem t_12_92 : e_Sn 12 92 (e_un n_12_92) := u_ldAT f_l0_eq (s_aload (i := .aload_n 0) (len := 1) hq_12 (by decide +kernel) rfl (.inr ⟨0, rfl, rfl, rfl⟩) : e_Sn 12 92 (o_load e_okR 0 93)) t_12_93
noncomputable def n_12_89 : e_Y := u_old (o_putf (e_f1 2 12) e_okR 92) n_12_92
theorem t_12_89 : e_Sn 12 89 (e_un n_12_89) := u_oldT (s_putf (ty0 := ey_2) (ok := e_okR) (C := er_2) (T := et_2) (N := 19) (ref := "Plateroomprinter$Engine") (index := 42) (ci := 2) (k := 12) hq_12 ho_12 ⟨rfl, by decide, ei_2, (List.mem_of_getElem? (i := 629) (by decide +kernel)), .inl rfl⟩ eo_2 en_2 e_oksA (.inr ⟨rfl, rfl, rfl⟩) (by decide +kernel) rfl : e_Sn 12 89 (o_putf (e_f1 2 12) e_okR 92)) t_12_92 (e_cg_putf (e_f1 2 12) e_okR)
noncomputable def n_12_87 : e_Y := u_tab (o_newa 0 (e_I 2147483648) 89)
theorem t_12_87 : e_Sn 12 87 (e_un n_12_87) := u_tabT (s_newI (List.mem_of_getElem? (i := 215) (by decide +kernel)) hq_12 (by decide +kernel) rfl : e_Sn 12 87 (o_newa 0 (e_I 2147483648) 89))
noncomputable def n_12_85 : e_Y := u_push (.inl 2147483660) n_12_87
theorem t_12_85 : e_Sn 12 85 (e_un n_12_85) := u_pushT (s_bipush (n := (12)) hq_12 (by decide +kernel) rfl ⟨by decide +kernel, by decide +kernel⟩ : e_Sn 12 85 (o_push (.inl 2147483660) 87)) t_12_87
noncomputable def n_12_84 : e_Y := u_ld f_okA f_l0 n_12_85
theorem t_12_84 : e_Sn 12 84 (e_un n_12_84) := u_ldAT f_l0_eq (s_aload (i := .aload_n 0) (len := 1) hq_12 (by decide +kernel) rfl (.inr ⟨0, rfl, rfl, rfl⟩) : e_Sn 12 84 (o_load e_okR 0 85)) t_12_85
noncomputable def n_12_81 : e_Y := u_old (o_putf (e_f1 2 11) e_okR 84) n_12_84
theorem t_12_81 : e_Sn 12 81 (e_un n_12_81) := u_oldT (s_putf (ty0 := ey_2) (ok := e_okR) (C := er_2) (T := et_2) (N := 19) (ref := "Plateroomprinter$Engine") (index := 39) (ci := 2) (k := 11) hq_12 ho_12 ⟨rfl, by decide, ei_2, (List.mem_of_getElem? (i := 628) (by decide +kernel)), .inl rfl⟩ eo_2 en_2 e_oksA (.inr ⟨rfl, rfl, rfl⟩) (by decide +kernel) rfl : e_Sn 12 81 (o_putf (e_f1 2 11) e_okR 84)) t_12_84 (e_cg_putf (e_f1 2 11) e_okR)
noncomputable def n_12_79 : e_Y := u_tab (o_newa 0 (e_I 2147483648) 81)
theorem t_12_79 : e_Sn 12 79 (e_un n_12_79) := u_tabT (s_newI (List.mem_of_getElem? (i := 215) (by decide +kernel)) hq_12 (by decide +kernel) rfl : e_Sn 12 79 (o_newa 0 (e_I 2147483648) 81))
noncomputable def n_12_77 : e_Y := u_push (.inl 2147483660) n_12_79
theorem t_12_77 : e_Sn 12 77 (e_un n_12_77) := u_pushT (s_bipush (n := (12)) hq_12 (by decide +kernel) rfl ⟨by decide +kernel, by decide +kernel⟩ : e_Sn 12 77 (o_push (.inl 2147483660) 79)) t_12_79
noncomputable def n_12_76 : e_Y := u_ld f_okA f_l0 n_12_77
theorem t_12_76 : e_Sn 12 76 (e_un n_12_76) := u_ldAT f_l0_eq (s_aload (i := .aload_n 0) (len := 1) hq_12 (by decide +kernel) rfl (.inr ⟨0, rfl, rfl, rfl⟩) : e_Sn 12 76 (o_load e_okR 0 77)) t_12_77
noncomputable def n_12_73 : e_Y := u_old (o_putf (e_f1 2 10) e_okR 76) n_12_76
theorem t_12_73 : e_Sn 12 73 (e_un n_12_73) := u_oldT (s_putf (ty0 := ey_2) (ok := e_okR) (C := er_2) (T := et_2) (N := 19) (ref := "Plateroomprinter$Engine") (index := 36) (ci := 2) (k := 10) hq_12 ho_12 ⟨rfl, by decide, ei_2, (List.mem_of_getElem? (i := 627) (by decide +kernel)), .inl rfl⟩ eo_2 en_2 e_oksA (.inr ⟨rfl, rfl, rfl⟩) (by decide +kernel) rfl : e_Sn 12 73 (o_putf (e_f1 2 10) e_okR 76)) t_12_76 (e_cg_putf (e_f1 2 10) e_okR)
noncomputable def n_12_71 : e_Y := u_tab (o_newa 0 (e_I 2147483648) 73)
theorem t_12_71 : e_Sn 12 71 (e_un n_12_71) := u_tabT (s_newI (List.mem_of_getElem? (i := 215) (by decide +kernel)) hq_12 (by decide +kernel) rfl : e_Sn 12 71 (o_newa 0 (e_I 2147483648) 73))
noncomputable def n_12_69 : e_Y := u_push (.inl 2147483660) n_12_71
theorem t_12_69 : e_Sn 12 69 (e_un n_12_69) := u_pushT (s_bipush (n := (12)) hq_12 (by decide +kernel) rfl ⟨by decide +kernel, by decide +kernel⟩ : e_Sn 12 69 (o_push (.inl 2147483660) 71)) t_12_71
noncomputable def n_12_68 : e_Y := u_ld f_okA f_l0 n_12_69
theorem t_12_68 : e_Sn 12 68 (e_un n_12_68) := u_ldAT f_l0_eq (s_aload (i := .aload_n 0) (len := 1) hq_12 (by decide +kernel) rfl (.inr ⟨0, rfl, rfl, rfl⟩) : e_Sn 12 68 (o_load e_okR 0 69)) t_12_69
noncomputable def n_12_65 : e_Y := u_old (o_putf (e_f1 2 9) e_okR 68) n_12_68
theorem t_12_65 : e_Sn 12 65 (e_un n_12_65) := u_oldT (s_putf (ty0 := ey_2) (ok := e_okR) (C := er_2) (T := et_2) (N := 19) (ref := "Plateroomprinter$Engine") (index := 33) (ci := 2) (k := 9) hq_12 ho_12 ⟨rfl, by decide, ei_2, (List.mem_of_getElem? (i := 626) (by decide +kernel)), .inl rfl⟩ eo_2 en_2 e_oksA (.inr ⟨rfl, rfl, rfl⟩) (by decide +kernel) rfl : e_Sn 12 65 (o_putf (e_f1 2 9) e_okR 68)) t_12_68 (e_cg_putf (e_f1 2 9) e_okR)
noncomputable def n_12_63 : e_Y := u_tab (o_newa 0 (e_I 2147483648) 65)
theorem t_12_63 : e_Sn 12 63 (e_un n_12_63) := u_tabT (s_newI (List.mem_of_getElem? (i := 215) (by decide +kernel)) hq_12 (by decide +kernel) rfl : e_Sn 12 63 (o_newa 0 (e_I 2147483648) 65))
noncomputable def n_12_61 : e_Y := u_push (.inl 2147483660) n_12_63
theorem t_12_61 : e_Sn 12 61 (e_un n_12_61) := u_pushT (s_bipush (n := (12)) hq_12 (by decide +kernel) rfl ⟨by decide +kernel, by decide +kernel⟩ : e_Sn 12 61 (o_push (.inl 2147483660) 63)) t_12_63
noncomputable def n_12_60 : e_Y := u_ld f_okA f_l0 n_12_61
theorem t_12_60 : e_Sn 12 60 (e_un n_12_60) := u_ldAT f_l0_eq (s_aload (i := .aload_n 0) (len := 1) hq_12 (by decide +kernel) rfl (.inr ⟨0, rfl, rfl, rfl⟩) : e_Sn 12 60 (o_load e_okR 0 61)) t_12_61
noncomputable def n_12_57 : e_Y := u_old (o_putf (e_f1 2 8) e_okR 60) n_12_60
theorem t_12_57 : e_Sn 12 57 (e_un n_12_57) := u_oldT (s_putf (ty0 := ey_2) (ok := e_okR) (C := er_2) (T := et_2) (N := 19) (ref := "Plateroomprinter$Engine") (index := 30) (ci := 2) (k := 8) hq_12 ho_12 ⟨rfl, by decide, ei_2, (List.mem_of_getElem? (i := 625) (by decide +kernel)), .inl rfl⟩ eo_2 en_2 e_oksA (.inr ⟨rfl, rfl, rfl⟩) (by decide +kernel) rfl : e_Sn 12 57 (o_putf (e_f1 2 8) e_okR 60)) t_12_60 (e_cg_putf (e_f1 2 8) e_okR)
noncomputable def n_12_55 : e_Y := u_tab (o_newa 0 (e_I 2147483648) 57)
theorem t_12_55 : e_Sn 12 55 (e_un n_12_55) := u_tabT (s_newI (List.mem_of_getElem? (i := 215) (by decide +kernel)) hq_12 (by decide +kernel) rfl : e_Sn 12 55 (o_newa 0 (e_I 2147483648) 57))
noncomputable def n_12_53 : e_Y := u_push (.inl 2147483660) n_12_55
theorem t_12_53 : e_Sn 12 53 (e_un n_12_53) := u_pushT (s_bipush (n := (12)) hq_12 (by decide +kernel) rfl ⟨by decide +kernel, by decide +kernel⟩ : e_Sn 12 53 (o_push (.inl 2147483660) 55)) t_12_55
noncomputable def n_12_52 : e_Y := u_ld f_okA f_l0 n_12_53
theorem t_12_52 : e_Sn 12 52 (e_un n_12_52) := u_ldAT f_l0_eq (s_aload (i := .aload_n 0) (len := 1) hq_12 (by decide +kernel) rfl (.inr ⟨0, rfl, rfl, rfl⟩) : e_Sn 12 52 (o_load e_okR 0 53)) t_12_53
noncomputable def n_12_49 : e_Y := u_old (o_putf (e_f1 2 7) e_okR 52) n_12_52
theorem t_12_49 : e_Sn 12 49 (e_un n_12_49) := u_oldT (s_putf (ty0 := ey_2) (ok := e_okR) (C := er_2) (T := et_2) (N := 19) (ref := "Plateroomprinter$Engine") (index := 27) (ci := 2) (k := 7) hq_12 ho_12 ⟨rfl, by decide, ei_2, (List.mem_of_getElem? (i := 624) (by decide +kernel)), .inl rfl⟩ eo_2 en_2 e_oksA (.inr ⟨rfl, rfl, rfl⟩) (by decide +kernel) rfl : e_Sn 12 49 (o_putf (e_f1 2 7) e_okR 52)) t_12_52 (e_cg_putf (e_f1 2 7) e_okR)
noncomputable def n_12_47 : e_Y := u_tab (o_newa 0 (e_I 2147483648) 49)
theorem t_12_47 : e_Sn 12 47 (e_un n_12_47) := u_tabT (s_newI (List.mem_of_getElem? (i := 215) (by decide +kernel)) hq_12 (by decide +kernel) rfl : e_Sn 12 47 (o_newa 0 (e_I 2147483648) 49))
noncomputable def n_12_45 : e_Y := u_push (.inl 2147483660) n_12_47
theorem t_12_45 : e_Sn 12 45 (e_un n_12_45) := u_pushT (s_bipush (n := (12)) hq_12 (by decide +kernel) rfl ⟨by decide +kernel, by decide +kernel⟩ : e_Sn 12 45 (o_push (.inl 2147483660) 47)) t_12_47
noncomputable def n_12_44 : e_Y := u_ld f_okA f_l0 n_12_45
theorem t_12_44 : e_Sn 12 44 (e_un n_12_44) := u_ldAT f_l0_eq (s_aload (i := .aload_n 0) (len := 1) hq_12 (by decide +kernel) rfl (.inr ⟨0, rfl, rfl, rfl⟩) : e_Sn 12 44 (o_load e_okR 0 45)) t_12_45
noncomputable def n_12_41 : e_Y := u_old (o_putf (e_f1 2 6) e_okR 44) n_12_44
theorem t_12_41 : e_Sn 12 41 (e_un n_12_41) := u_oldT (s_putf (ty0 := ey_2) (ok := e_okR) (C := er_2) (T := et_2) (N := 19) (ref := "Plateroomprinter$Engine") (index := 24) (ci := 2) (k := 6) hq_12 ho_12 ⟨rfl, by decide, ei_2, (List.mem_of_getElem? (i := 623) (by decide +kernel)), .inl rfl⟩ eo_2 en_2 e_oksA (.inr ⟨rfl, rfl, rfl⟩) (by decide +kernel) rfl : e_Sn 12 41 (o_putf (e_f1 2 6) e_okR 44)) t_12_44 (e_cg_putf (e_f1 2 6) e_okR)
noncomputable def n_12_39 : e_Y := u_tab (o_newa 0 (e_I 2147483648) 41)
theorem t_12_39 : e_Sn 12 39 (e_un n_12_39) := u_tabT (s_newI (List.mem_of_getElem? (i := 215) (by decide +kernel)) hq_12 (by decide +kernel) rfl : e_Sn 12 39 (o_newa 0 (e_I 2147483648) 41))
noncomputable def n_12_37 : e_Y := u_push (.inl 2147483660) n_12_39
theorem t_12_37 : e_Sn 12 37 (e_un n_12_37) := u_pushT (s_bipush (n := (12)) hq_12 (by decide +kernel) rfl ⟨by decide +kernel, by decide +kernel⟩ : e_Sn 12 37 (o_push (.inl 2147483660) 39)) t_12_39
noncomputable def n_12_36 : e_Y := u_ld f_okA f_l0 n_12_37
theorem t_12_36 : e_Sn 12 36 (e_un n_12_36) := u_ldAT f_l0_eq (s_aload (i := .aload_n 0) (len := 1) hq_12 (by decide +kernel) rfl (.inr ⟨0, rfl, rfl, rfl⟩) : e_Sn 12 36 (o_load e_okR 0 37)) t_12_37
noncomputable def n_12_33 : e_Y := u_old (o_putf (e_f1 2 5) e_okR 36) n_12_36
theorem t_12_33 : e_Sn 12 33 (e_un n_12_33) := u_oldT (s_putf (ty0 := ey_2) (ok := e_okR) (C := er_2) (T := et_2) (N := 19) (ref := "Plateroomprinter$Engine") (index := 21) (ci := 2) (k := 5) hq_12 ho_12 ⟨rfl, by decide, ei_2, (List.mem_of_getElem? (i := 622) (by decide +kernel)), .inl rfl⟩ eo_2 en_2 e_oksA (.inr ⟨rfl, rfl, rfl⟩) (by decide +kernel) rfl : e_Sn 12 33 (o_putf (e_f1 2 5) e_okR 36)) t_12_36 (e_cg_putf (e_f1 2 5) e_okR)
noncomputable def n_12_31 : e_Y := u_tab (o_newa 0 (e_I 2147483648) 33)
theorem t_12_31 : e_Sn 12 31 (e_un n_12_31) := u_tabT (s_newI (List.mem_of_getElem? (i := 215) (by decide +kernel)) hq_12 (by decide +kernel) rfl : e_Sn 12 31 (o_newa 0 (e_I 2147483648) 33))
noncomputable def n_12_29 : e_Y := u_push (.inl 2147483660) n_12_31
theorem t_12_29 : e_Sn 12 29 (e_un n_12_29) := u_pushT (s_bipush (n := (12)) hq_12 (by decide +kernel) rfl ⟨by decide +kernel, by decide +kernel⟩ : e_Sn 12 29 (o_push (.inl 2147483660) 31)) t_12_31
noncomputable def n_12_28 : e_Y := u_ld f_okA f_l0 n_12_29
theorem t_12_28 : e_Sn 12 28 (e_un n_12_28) := u_ldAT f_l0_eq (s_aload (i := .aload_n 0) (len := 1) hq_12 (by decide +kernel) rfl (.inr ⟨0, rfl, rfl, rfl⟩) : e_Sn 12 28 (o_load e_okR 0 29)) t_12_29
noncomputable def n_12_25 : e_Y := u_old (o_putf (e_f1 2 4) e_okR 28) n_12_28
theorem t_12_25 : e_Sn 12 25 (e_un n_12_25) := u_oldT (s_putf (ty0 := ey_2) (ok := e_okR) (C := er_2) (T := et_2) (N := 19) (ref := "Plateroomprinter$Engine") (index := 18) (ci := 2) (k := 4) hq_12 ho_12 ⟨rfl, by decide, ei_2, (List.mem_of_getElem? (i := 621) (by decide +kernel)), .inl rfl⟩ eo_2 en_2 e_oksA (.inr ⟨rfl, rfl, rfl⟩) (by decide +kernel) rfl : e_Sn 12 25 (o_putf (e_f1 2 4) e_okR 28)) t_12_28 (e_cg_putf (e_f1 2 4) e_okR)
noncomputable def n_12_23 : e_Y := u_tab (o_newa 0 (e_I 2147483648) 25)
theorem t_12_23 : e_Sn 12 23 (e_un n_12_23) := u_tabT (s_newI (List.mem_of_getElem? (i := 215) (by decide +kernel)) hq_12 (by decide +kernel) rfl : e_Sn 12 23 (o_newa 0 (e_I 2147483648) 25))
noncomputable def n_12_21 : e_Y := u_push (.inl 2147483654) n_12_23
theorem t_12_21 : e_Sn 12 21 (e_un n_12_21) := u_pushT (s_bipush (n := (6)) hq_12 (by decide +kernel) rfl ⟨by decide +kernel, by decide +kernel⟩ : e_Sn 12 21 (o_push (.inl 2147483654) 23)) t_12_23
noncomputable def n_12_20 : e_Y := u_ld f_okA f_l0 n_12_21
theorem t_12_20 : e_Sn 12 20 (e_un n_12_20) := u_ldAT f_l0_eq (s_aload (i := .aload_n 0) (len := 1) hq_12 (by decide +kernel) rfl (.inr ⟨0, rfl, rfl, rfl⟩) : e_Sn 12 20 (o_load e_okR 0 21)) t_12_21
noncomputable def n_12_17 : e_Y := u_old (o_putf (e_f1 2 3) e_okR 20) n_12_20
theorem t_12_17 : e_Sn 12 17 (e_un n_12_17) := u_oldT (s_putf (ty0 := ey_2) (ok := e_okR) (C := er_2) (T := et_2) (N := 19) (ref := "Plateroomprinter$Engine") (index := 15) (ci := 2) (k := 3) hq_12 ho_12 ⟨rfl, by decide, ei_2, (List.mem_of_getElem? (i := 619) (by decide +kernel)), .inl rfl⟩ eo_2 en_2 e_oksA (.inr ⟨rfl, rfl, rfl⟩) (by decide +kernel) rfl : e_Sn 12 17 (o_putf (e_f1 2 3) e_okR 20)) t_12_20 (e_cg_putf (e_f1 2 3) e_okR)
noncomputable def n_12_15 : e_Y := u_tab (o_newa 0 (e_I 2147483648) 17)
theorem t_12_15 : e_Sn 12 15 (e_un n_12_15) := u_tabT (s_newI (List.mem_of_getElem? (i := 215) (by decide +kernel)) hq_12 (by decide +kernel) rfl : e_Sn 12 15 (o_newa 0 (e_I 2147483648) 17))
noncomputable def n_12_13 : e_Y := u_push (.inl 2147483654) n_12_15
theorem t_12_13 : e_Sn 12 13 (e_un n_12_13) := u_pushT (s_bipush (n := (6)) hq_12 (by decide +kernel) rfl ⟨by decide +kernel, by decide +kernel⟩ : e_Sn 12 13 (o_push (.inl 2147483654) 15)) t_12_15
noncomputable def n_12_12 : e_Y := u_ld f_okA f_l0 n_12_13
theorem t_12_12 : e_Sn 12 12 (e_un n_12_12) := u_ldAT f_l0_eq (s_aload (i := .aload_n 0) (len := 1) hq_12 (by decide +kernel) rfl (.inr ⟨0, rfl, rfl, rfl⟩) : e_Sn 12 12 (o_load e_okR 0 13)) t_12_13
noncomputable def n_12_9 : e_Y := u_old (o_putf (e_f1 2 2) e_okR 12) n_12_12
theorem t_12_9 : e_Sn 12 9 (e_un n_12_9) := u_oldT (s_putf (ty0 := ey_2) (ok := e_okR) (C := er_2) (T := et_2) (N := 19) (ref := "Plateroomprinter$Engine") (index := 11) (ci := 2) (k := 2) hq_12 ho_12 ⟨rfl, by decide, ei_2, (List.mem_of_getElem? (i := 618) (by decide +kernel)), .inl rfl⟩ eo_2 en_2 e_oksA (.inr ⟨rfl, rfl, rfl⟩) (by decide +kernel) rfl : e_Sn 12 9 (o_putf (e_f1 2 2) e_okR 12)) t_12_12 (e_cg_putf (e_f1 2 2) e_okR)
noncomputable def n_12_7 : e_Y := u_tab (o_newa 0 (e_I 2147483648) 9)
theorem t_12_7 : e_Sn 12 7 (e_un n_12_7) := u_tabT (s_newI (List.mem_of_getElem? (i := 215) (by decide +kernel)) hq_12 (by decide +kernel) rfl : e_Sn 12 7 (o_newa 0 (e_I 2147483648) 9))
noncomputable def n_12_5 : e_Y := u_push (.inl 2147483654) n_12_7
theorem t_12_5 : e_Sn 12 5 (e_un n_12_5) := u_pushT (s_bipush (n := (6)) hq_12 (by decide +kernel) rfl ⟨by decide +kernel, by decide +kernel⟩ : e_Sn 12 5 (o_push (.inl 2147483654) 7)) t_12_7
noncomputable def n_12_4 : e_Y := u_ld f_okA f_l0 n_12_5
theorem t_12_4 : e_Sn 12 4 (e_un n_12_4) := u_ldAT f_l0_eq (s_aload (i := .aload_n 0) (len := 1) hq_12 (by decide +kernel) rfl (.inr ⟨0, rfl, rfl, rfl⟩) : e_Sn 12 4 (o_load e_okR 0 5)) t_12_5
noncomputable def n_12_1 : e_Y := u_tab (o_oinit 4)
theorem t_12_1 : e_Sn 12 1 (e_un n_12_1) := u_tabT (s_oinit (idx := 3) hq_12 ho_12 (List.mem_of_getElem? (i := 615) (by decide +kernel)) (List.mem_of_getElem? (i := 190) (by decide +kernel)) (List.mem_of_getElem? (i := 191) (by decide +kernel)) (by decide +kernel) rfl : e_Sn 12 1 (o_oinit 4))
noncomputable def n_12_0 : e_Y := u_ld f_okA f_l0 n_12_1
theorem t_12_0 : e_Sn 12 0 (e_un n_12_0) := u_ldAT f_l0_eq (s_aload (i := .aload_n 0) (len := 1) hq_12 (by decide +kernel) rfl (.inr ⟨0, rfl, rfl, rfl⟩) : e_Sn 12 0 (o_load e_okR 0 1)) t_12_1
noncomputable def e_tb_12 : e_X := (e_br 41 (e_br 17 (e_br 4 (e_lf 0 (e_un n_12_0)) (e_br 9 (e_lf 4 (e_un n_12_4)) (e_lf 9 (e_un n_12_9)))) (e_br 25 (e_lf 17 (e_un n_12_17)) (e_br 33 (e_lf 25 (e_un n_12_25)) (e_lf 33 (e_un n_12_33))))) (e_br 65 (e_br 49 (e_lf 41 (e_un n_12_41)) (e_br 57 (e_lf 49 (e_un n_12_49)) (e_lf 57 (e_un n_12_57)))) (e_br 81 (e_br 73 (e_lf 65 (e_un n_12_65)) (e_lf 73 (e_un n_12_73))) (e_br 89 (e_lf 81 (e_un n_12_81)) (e_lf 89 (e_un n_12_89))))))
theorem e_tk_12 : e_Tb 12 e_tb_12 := (e_brT (e_brT (e_brT (e_lfT t_12_0) (e_brT (e_lfT t_12_4) (e_lfT t_12_9))) (e_brT (e_lfT t_12_17) (e_brT (e_lfT t_12_25) (e_lfT t_12_33)))) (e_brT (e_brT (e_lfT t_12_41) (e_brT (e_lfT t_12_49) (e_lfT t_12_57))) (e_brT (e_brT (e_lfT t_12_65) (e_lfT t_12_73)) (e_brT (e_lfT t_12_81) (e_lfT t_12_89)))))
theorem hq_43 : (e_ml[43]?).map (·.2.1) = some prog_8_method_1_code := rfl
theorem ho_43 : (e_ml[43]?).map (·.1.cls) = some "Plateroomprinter$Path" := rfl
theorem hr_43 : (e_ml[43]?).map (·.2.2.2) = some none := rfl
noncomputable def n_43_36 : e_Y := u_tab (o_retv)
theorem t_43_36 : e_Sn 43 36 (e_un n_43_36) := u_tabT (s_vret hq_43 hr_43 (by decide +kernel) : e_Sn 43 36 (o_retv))
noncomputable def n_43_33 : e_Y := u_old (o_putf (e_f1 7 3) e_okR 36) n_43_36
theorem t_43_33 : e_Sn 43 33 (e_un n_43_33) := u_oldT (s_putf (ty0 := ey_7) (ok := e_okR) (C := er_7) (T := et_7) (N := 6) (ref := "Plateroomprinter$Path") (index := 21) (ci := 7) (k := 3) hq_43 ho_43 ⟨rfl, by decide, ei_7, (List.mem_of_getElem? (i := 291) (by decide +kernel)), .inl rfl⟩ eo_7 en_7 e_oksA (.inr ⟨rfl, rfl, rfl⟩) (by decide +kernel) rfl : e_Sn 43 33 (o_putf (e_f1 7 3) e_okR 36)) t_43_36 (e_cg_putf (e_f1 7 3) e_okR)
noncomputable def n_43_31 : e_Y := u_tab (o_newa 0 (e_I 2147483648) 33)
theorem t_43_31 : e_Sn 43 31 (e_un n_43_31) := u_tabT (s_newI (List.mem_of_getElem? (i := 215) (by decide +kernel)) hq_43 (by decide +kernel) rfl : e_Sn 43 31 (o_newa 0 (e_I 2147483648) 33))
noncomputable def n_43_29 : e_Y := u_push (.inl 2147483768) n_43_31
theorem t_43_29 : e_Sn 43 29 (e_un n_43_29) := u_pushT (s_bipush (n := (120)) hq_43 (by decide +kernel) rfl ⟨by decide +kernel, by decide +kernel⟩ : e_Sn 43 29 (o_push (.inl 2147483768) 31)) t_43_31
noncomputable def n_43_28 : e_Y := u_ld f_okA f_l0 n_43_29
theorem t_43_28 : e_Sn 43 28 (e_un n_43_28) := u_ldAT f_l0_eq (s_aload (i := .aload_n 0) (len := 1) hq_43 (by decide +kernel) rfl (.inr ⟨0, rfl, rfl, rfl⟩) : e_Sn 43 28 (o_load e_okR 0 29)) t_43_29
noncomputable def n_43_25 : e_Y := u_old (o_putf (e_f1 7 2) e_okR 28) n_43_28
theorem t_43_25 : e_Sn 43 25 (e_un n_43_25) := u_oldT (s_putf (ty0 := ey_7) (ok := e_okR) (C := er_7) (T := et_7) (N := 6) (ref := "Plateroomprinter$Path") (index := 18) (ci := 7) (k := 2) hq_43 ho_43 ⟨rfl, by decide, ei_7, (List.mem_of_getElem? (i := 290) (by decide +kernel)), .inl rfl⟩ eo_7 en_7 e_oksA (.inr ⟨rfl, rfl, rfl⟩) (by decide +kernel) rfl : e_Sn 43 25 (o_putf (e_f1 7 2) e_okR 28)) t_43_28 (e_cg_putf (e_f1 7 2) e_okR)
noncomputable def n_43_23 : e_Y := u_tab (o_newa 0 (e_I 2147483648) 25)
theorem t_43_23 : e_Sn 43 23 (e_un n_43_23) := u_tabT (s_newI (List.mem_of_getElem? (i := 215) (by decide +kernel)) hq_43 (by decide +kernel) rfl : e_Sn 43 23 (o_newa 0 (e_I 2147483648) 25))
noncomputable def n_43_21 : e_Y := u_push (.inl 2147483768) n_43_23
theorem t_43_21 : e_Sn 43 21 (e_un n_43_21) := u_pushT (s_bipush (n := (120)) hq_43 (by decide +kernel) rfl ⟨by decide +kernel, by decide +kernel⟩ : e_Sn 43 21 (o_push (.inl 2147483768) 23)) t_43_23
noncomputable def n_43_20 : e_Y := u_ld f_okA f_l0 n_43_21
theorem t_43_20 : e_Sn 43 20 (e_un n_43_20) := u_ldAT f_l0_eq (s_aload (i := .aload_n 0) (len := 1) hq_43 (by decide +kernel) rfl (.inr ⟨0, rfl, rfl, rfl⟩) : e_Sn 43 20 (o_load e_okR 0 21)) t_43_21
noncomputable def n_43_17 : e_Y := u_old (o_putf (e_f1 7 1) e_okR 20) n_43_20
theorem t_43_17 : e_Sn 43 17 (e_un n_43_17) := u_oldT (s_putf (ty0 := ey_7) (ok := e_okR) (C := er_7) (T := et_7) (N := 6) (ref := "Plateroomprinter$Path") (index := 15) (ci := 7) (k := 1) hq_43 ho_43 ⟨rfl, by decide, ei_7, (List.mem_of_getElem? (i := 288) (by decide +kernel)), .inl rfl⟩ eo_7 en_7 e_oksA (.inr ⟨rfl, rfl, rfl⟩) (by decide +kernel) rfl : e_Sn 43 17 (o_putf (e_f1 7 1) e_okR 20)) t_43_20 (e_cg_putf (e_f1 7 1) e_okR)
noncomputable def n_43_15 : e_Y := u_tab (o_newa 0 (e_I 2147483648) 17)
theorem t_43_15 : e_Sn 43 15 (e_un n_43_15) := u_tabT (s_newI (List.mem_of_getElem? (i := 215) (by decide +kernel)) hq_43 (by decide +kernel) rfl : e_Sn 43 15 (o_newa 0 (e_I 2147483648) 17))
noncomputable def n_43_13 : e_Y := u_push (.inl 2147483768) n_43_15
theorem t_43_13 : e_Sn 43 13 (e_un n_43_13) := u_pushT (s_bipush (n := (120)) hq_43 (by decide +kernel) rfl ⟨by decide +kernel, by decide +kernel⟩ : e_Sn 43 13 (o_push (.inl 2147483768) 15)) t_43_15
noncomputable def n_43_12 : e_Y := u_ld f_okA f_l0 n_43_13
theorem t_43_12 : e_Sn 43 12 (e_un n_43_12) := u_ldAT f_l0_eq (s_aload (i := .aload_n 0) (len := 1) hq_43 (by decide +kernel) rfl (.inr ⟨0, rfl, rfl, rfl⟩) : e_Sn 43 12 (o_load e_okR 0 13)) t_43_13
noncomputable def n_43_9 : e_Y := u_old (o_putf (e_f1 7 0) e_okR 12) n_43_12
theorem t_43_9 : e_Sn 43 9 (e_un n_43_9) := u_oldT (s_putf (ty0 := ey_7) (ok := e_okR) (C := er_7) (T := et_7) (N := 6) (ref := "Plateroomprinter$Path") (index := 9) (ci := 7) (k := 0) hq_43 ho_43 ⟨rfl, by decide, ei_7, (List.mem_of_getElem? (i := 286) (by decide +kernel)), .inl rfl⟩ eo_7 en_7 e_oksA (.inr ⟨rfl, rfl, rfl⟩) (by decide +kernel) rfl : e_Sn 43 9 (o_putf (e_f1 7 0) e_okR 12)) t_43_12 (e_cg_putf (e_f1 7 0) e_okR)
noncomputable def n_43_7 : e_Y := u_tab (o_newa 0 (e_I 2147483648) 9)
theorem t_43_7 : e_Sn 43 7 (e_un n_43_7) := u_tabT (s_newI (List.mem_of_getElem? (i := 215) (by decide +kernel)) hq_43 (by decide +kernel) rfl : e_Sn 43 7 (o_newa 0 (e_I 2147483648) 9))
noncomputable def n_43_5 : e_Y := u_push (.inl 2147483768) n_43_7
theorem t_43_5 : e_Sn 43 5 (e_un n_43_5) := u_pushT (s_bipush (n := (120)) hq_43 (by decide +kernel) rfl ⟨by decide +kernel, by decide +kernel⟩ : e_Sn 43 5 (o_push (.inl 2147483768) 7)) t_43_7
noncomputable def n_43_4 : e_Y := u_ld f_okA f_l0 n_43_5
theorem t_43_4 : e_Sn 43 4 (e_un n_43_4) := u_ldAT f_l0_eq (s_aload (i := .aload_n 0) (len := 1) hq_43 (by decide +kernel) rfl (.inr ⟨0, rfl, rfl, rfl⟩) : e_Sn 43 4 (o_load e_okR 0 5)) t_43_5
noncomputable def n_43_1 : e_Y := u_tab (o_oinit 4)
theorem t_43_1 : e_Sn 43 1 (e_un n_43_1) := u_tabT (s_oinit (idx := 3) hq_43 ho_43 (List.mem_of_getElem? (i := 285) (by decide +kernel)) (List.mem_of_getElem? (i := 190) (by decide +kernel)) (List.mem_of_getElem? (i := 191) (by decide +kernel)) (by decide +kernel) rfl : e_Sn 43 1 (o_oinit 4))
noncomputable def n_43_0 : e_Y := u_ld f_okA f_l0 n_43_1
theorem t_43_0 : e_Sn 43 0 (e_un n_43_0) := u_ldAT f_l0_eq (s_aload (i := .aload_n 0) (len := 1) hq_43 (by decide +kernel) rfl (.inr ⟨0, rfl, rfl, rfl⟩) : e_Sn 43 0 (o_load e_okR 0 1)) t_43_1
noncomputable def e_tb_43 : e_X := (e_br 17 (e_br 4 (e_lf 0 (e_un n_43_0)) (e_br 9 (e_lf 4 (e_un n_43_4)) (e_lf 9 (e_un n_43_9)))) (e_br 25 (e_lf 17 (e_un n_43_17)) (e_br 33 (e_lf 25 (e_un n_43_25)) (e_lf 33 (e_un n_43_33)))))
theorem e_tk_43 : e_Tb 43 e_tb_43 := (e_brT (e_brT (e_lfT t_43_0) (e_brT (e_lfT t_43_4) (e_lfT t_43_9))) (e_brT (e_lfT t_43_17) (e_brT (e_lfT t_43_25) (e_lfT t_43_33))))
theorem hq_39 : (e_ml[39]?).map (·.2.1) = some prog_7_method_1_code := rfl
theorem ho_39 : (e_ml[39]?).map (·.1.cls) = some "Plateroomprinter$Painter" := rfl
theorem hr_39 : (e_ml[39]?).map (·.2.2.2) = some none := rfl
noncomputable def n_39_87 : e_Y := u_tab (o_retv)
theorem t_39_87 : e_Sn 39 87 (e_un n_39_87) := u_tabT (s_vret hq_39 hr_39 (by decide +kernel) : e_Sn 39 87 (o_retv))
noncomputable def n_39_84 : e_Y := u_old (o_putf (e_f1 6 2) e_okR 87) n_39_87
theorem t_39_84 : e_Sn 39 84 (e_un n_39_84) := u_oldT (s_putf (ty0 := ey_6) (ok := e_okR) (C := er_6) (T := et_6) (N := 17) (ref := "Plateroomprinter$Painter") (index := 51) (ci := 6) (k := 2) hq_39 ho_39 ⟨rfl, by decide, ei_6, (List.mem_of_getElem? (i := 560) (by decide +kernel)), .inl rfl⟩ eo_6 en_6 e_oksR (.inr ⟨rfl, rfl, rfl⟩) (by decide +kernel) rfl : e_Sn 39 84 (o_putf (e_f1 6 2) e_okR 87)) t_39_87 (e_cg_putf (e_f1 6 2) e_okR)
noncomputable def n_39_83 : e_Y := u_ld f_okA f_l2 n_39_84
theorem t_39_83 : e_Sn 39 83 (e_un n_39_83) := u_ldAT f_l2_eq (s_aload (i := .aload_n 2) (len := 1) hq_39 (by decide +kernel) rfl (.inr ⟨2, rfl, rfl, rfl⟩) : e_Sn 39 83 (o_load e_okR 2 84)) t_39_84
noncomputable def n_39_82 : e_Y := u_ld f_okA f_l0 n_39_83
theorem t_39_82 : e_Sn 39 82 (e_un n_39_82) := u_ldAT f_l0_eq (s_aload (i := .aload_n 0) (len := 1) hq_39 (by decide +kernel) rfl (.inr ⟨0, rfl, rfl, rfl⟩) : e_Sn 39 82 (o_load e_okR 0 83)) t_39_83
noncomputable def n_39_79 : e_Y := u_old (o_putf (e_f1 6 1) e_okR 82) n_39_82
theorem t_39_79 : e_Sn 39 79 (e_un n_39_79) := u_oldT (s_putf (ty0 := ey_6) (ok := e_okR) (C := er_6) (T := et_6) (N := 17) (ref := "Plateroomprinter$Painter") (index := 50) (ci := 6) (k := 1) hq_39 ho_39 ⟨rfl, by decide, ei_6, (List.mem_of_getElem? (i := 559) (by decide +kernel)), .inl rfl⟩ eo_6 en_6 e_oksR (.inr ⟨rfl, rfl, rfl⟩) (by decide +kernel) rfl : e_Sn 39 79 (o_putf (e_f1 6 1) e_okR 82)) t_39_82 (e_cg_putf (e_f1 6 1) e_okR)
noncomputable def n_39_76 : e_Y := u_getf 11 2 (u_old (o_getf (e_f1 11 2) 79) n_39_79) n_39_79
theorem t_39_76 : e_Sn 39 76 (e_un n_39_76) := u_getfT (s_getf (C := er_11) (T := et_11) (N := 15) (ref := "Plateroomprinter$World") (index := 44) (ci := 11) (k := 2) hq_39 ho_39 ⟨rfl, by decide, ei_11, (List.mem_of_getElem? (i := 466) (by decide +kernel)), .inl rfl⟩ (by decide +kernel) rfl : e_Sn 39 76 (o_getf (e_f1 11 2) 79)) t_39_79
noncomputable def n_39_75 : e_Y := u_ld f_okA f_l1 n_39_76
theorem t_39_75 : e_Sn 39 75 (e_un n_39_75) := u_ldAT f_l1_eq (s_aload (i := .aload_n 1) (len := 1) hq_39 (by decide +kernel) rfl (.inr ⟨1, rfl, rfl, rfl⟩) : e_Sn 39 75 (o_load e_okR 1 76)) t_39_76
noncomputable def n_39_74 : e_Y := u_ld f_okA f_l0 n_39_75
theorem t_39_74 : e_Sn 39 74 (e_un n_39_74) := u_ldAT f_l0_eq (s_aload (i := .aload_n 0) (len := 1) hq_39 (by decide +kernel) rfl (.inr ⟨0, rfl, rfl, rfl⟩) : e_Sn 39 74 (o_load e_okR 0 75)) t_39_75
noncomputable def n_39_71 : e_Y := u_old (o_putf (e_f1 6 0) e_okR 74) n_39_74
theorem t_39_71 : e_Sn 39 71 (e_un n_39_71) := u_oldT (s_putf (ty0 := ey_6) (ok := e_okR) (C := er_6) (T := et_6) (N := 17) (ref := "Plateroomprinter$Painter") (index := 40) (ci := 6) (k := 0) hq_39 ho_39 ⟨rfl, by decide, ei_6, (List.mem_of_getElem? (i := 558) (by decide +kernel)), .inl rfl⟩ eo_6 en_6 e_oksR (.inr ⟨rfl, rfl, rfl⟩) (by decide +kernel) rfl : e_Sn 39 71 (o_putf (e_f1 6 0) e_okR 74)) t_39_74 (e_cg_putf (e_f1 6 0) e_okR)
noncomputable def n_39_70 : e_Y := u_ld f_okA f_l1 n_39_71
theorem t_39_70 : e_Sn 39 70 (e_un n_39_70) := u_ldAT f_l1_eq (s_aload (i := .aload_n 1) (len := 1) hq_39 (by decide +kernel) rfl (.inr ⟨1, rfl, rfl, rfl⟩) : e_Sn 39 70 (o_load e_okR 1 71)) t_39_71
noncomputable def n_39_69 : e_Y := u_ld f_okA f_l0 n_39_70
theorem t_39_69 : e_Sn 39 69 (e_un n_39_69) := u_ldAT f_l0_eq (s_aload (i := .aload_n 0) (len := 1) hq_39 (by decide +kernel) rfl (.inr ⟨0, rfl, rfl, rfl⟩) : e_Sn 39 69 (o_load e_okR 0 70)) t_39_70
noncomputable def n_39_66 : e_Y := u_old (o_putf (e_f1 6 15) e_okR 69) n_39_69
theorem t_39_66 : e_Sn 39 66 (e_un n_39_66) := u_oldT (s_putf (ty0 := ey_6) (ok := e_okR) (C := er_6) (T := et_6) (N := 17) (ref := "Plateroomprinter$Painter") (index := 37) (ci := 6) (k := 15) hq_39 ho_39 ⟨rfl, by decide, ei_6, (List.mem_of_getElem? (i := 573) (by decide +kernel)), .inl rfl⟩ eo_6 en_6 e_oksA (.inr ⟨rfl, rfl, rfl⟩) (by decide +kernel) rfl : e_Sn 39 66 (o_putf (e_f1 6 15) e_okR 69)) t_39_69 (e_cg_putf (e_f1 6 15) e_okR)
noncomputable def n_39_64 : e_Y := u_tab (o_newa 0 (e_I 2147483648) 66)
theorem t_39_64 : e_Sn 39 64 (e_un n_39_64) := u_tabT (s_newI (List.mem_of_getElem? (i := 215) (by decide +kernel)) hq_39 (by decide +kernel) rfl : e_Sn 39 64 (o_newa 0 (e_I 2147483648) 66))
noncomputable def n_39_62 : e_Y := u_push (.inl 2147483664) n_39_64
theorem t_39_62 : e_Sn 39 62 (e_un n_39_62) := u_pushT (s_bipush (n := (16)) hq_39 (by decide +kernel) rfl ⟨by decide +kernel, by decide +kernel⟩ : e_Sn 39 62 (o_push (.inl 2147483664) 64)) t_39_64
noncomputable def n_39_61 : e_Y := u_ld f_okA f_l0 n_39_62
theorem t_39_61 : e_Sn 39 61 (e_un n_39_61) := u_ldAT f_l0_eq (s_aload (i := .aload_n 0) (len := 1) hq_39 (by decide +kernel) rfl (.inr ⟨0, rfl, rfl, rfl⟩) : e_Sn 39 61 (o_load e_okR 0 62)) t_39_62
noncomputable def n_39_58 : e_Y := u_old (o_putf (e_f1 6 14) e_okR 61) n_39_61
theorem t_39_58 : e_Sn 39 58 (e_un n_39_58) := u_oldT (s_putf (ty0 := ey_6) (ok := e_okR) (C := er_6) (T := et_6) (N := 17) (ref := "Plateroomprinter$Painter") (index := 34) (ci := 6) (k := 14) hq_39 ho_39 ⟨rfl, by decide, ei_6, (List.mem_of_getElem? (i := 572) (by decide +kernel)), .inl rfl⟩ eo_6 en_6 e_oksA (.inr ⟨rfl, rfl, rfl⟩) (by decide +kernel) rfl : e_Sn 39 58 (o_putf (e_f1 6 14) e_okR 61)) t_39_61 (e_cg_putf (e_f1 6 14) e_okR)
noncomputable def n_39_56 : e_Y := u_tab (o_newa 0 (e_I 2147483648) 58)
theorem t_39_56 : e_Sn 39 56 (e_un n_39_56) := u_tabT (s_newI (List.mem_of_getElem? (i := 215) (by decide +kernel)) hq_39 (by decide +kernel) rfl : e_Sn 39 56 (o_newa 0 (e_I 2147483648) 58))
noncomputable def n_39_54 : e_Y := u_push (.inl 2147483664) n_39_56
theorem t_39_54 : e_Sn 39 54 (e_un n_39_54) := u_pushT (s_bipush (n := (16)) hq_39 (by decide +kernel) rfl ⟨by decide +kernel, by decide +kernel⟩ : e_Sn 39 54 (o_push (.inl 2147483664) 56)) t_39_56
noncomputable def n_39_53 : e_Y := u_ld f_okA f_l0 n_39_54
theorem t_39_53 : e_Sn 39 53 (e_un n_39_53) := u_ldAT f_l0_eq (s_aload (i := .aload_n 0) (len := 1) hq_39 (by decide +kernel) rfl (.inr ⟨0, rfl, rfl, rfl⟩) : e_Sn 39 53 (o_load e_okR 0 54)) t_39_54
noncomputable def n_39_50 : e_Y := u_old (o_putf (e_f1 6 13) e_okR 53) n_39_53
theorem t_39_50 : e_Sn 39 50 (e_un n_39_50) := u_oldT (s_putf (ty0 := ey_6) (ok := e_okR) (C := er_6) (T := et_6) (N := 17) (ref := "Plateroomprinter$Painter") (index := 31) (ci := 6) (k := 13) hq_39 ho_39 ⟨rfl, by decide, ei_6, (List.mem_of_getElem? (i := 571) (by decide +kernel)), .inl rfl⟩ eo_6 en_6 e_oksA (.inr ⟨rfl, rfl, rfl⟩) (by decide +kernel) rfl : e_Sn 39 50 (o_putf (e_f1 6 13) e_okR 53)) t_39_53 (e_cg_putf (e_f1 6 13) e_okR)
noncomputable def n_39_48 : e_Y := u_tab (o_newa 0 (e_I 2147483648) 50)
theorem t_39_48 : e_Sn 39 48 (e_un n_39_48) := u_tabT (s_newI (List.mem_of_getElem? (i := 215) (by decide +kernel)) hq_39 (by decide +kernel) rfl : e_Sn 39 48 (o_newa 0 (e_I 2147483648) 50))
noncomputable def n_39_46 : e_Y := u_push (.inl 2147483654) n_39_48
theorem t_39_46 : e_Sn 39 46 (e_un n_39_46) := u_pushT (s_bipush (n := (6)) hq_39 (by decide +kernel) rfl ⟨by decide +kernel, by decide +kernel⟩ : e_Sn 39 46 (o_push (.inl 2147483654) 48)) t_39_48
noncomputable def n_39_45 : e_Y := u_ld f_okA f_l0 n_39_46
theorem t_39_45 : e_Sn 39 45 (e_un n_39_45) := u_ldAT f_l0_eq (s_aload (i := .aload_n 0) (len := 1) hq_39 (by decide +kernel) rfl (.inr ⟨0, rfl, rfl, rfl⟩) : e_Sn 39 45 (o_load e_okR 0 46)) t_39_46
noncomputable def n_39_42 : e_Y := u_old (o_putf (e_f1 6 12) e_okR 45) n_39_45
theorem t_39_42 : e_Sn 39 42 (e_un n_39_42) := u_oldT (s_putf (ty0 := ey_6) (ok := e_okR) (C := er_6) (T := et_6) (N := 17) (ref := "Plateroomprinter$Painter") (index := 28) (ci := 6) (k := 12) hq_39 ho_39 ⟨rfl, by decide, ei_6, (List.mem_of_getElem? (i := 570) (by decide +kernel)), .inl rfl⟩ eo_6 en_6 e_oksA (.inr ⟨rfl, rfl, rfl⟩) (by decide +kernel) rfl : e_Sn 39 42 (o_putf (e_f1 6 12) e_okR 45)) t_39_45 (e_cg_putf (e_f1 6 12) e_okR)
noncomputable def n_39_40 : e_Y := u_tab (o_newa 0 (e_I 2147483648) 42)
theorem t_39_40 : e_Sn 39 40 (e_un n_39_40) := u_tabT (s_newI (List.mem_of_getElem? (i := 215) (by decide +kernel)) hq_39 (by decide +kernel) rfl : e_Sn 39 40 (o_newa 0 (e_I 2147483648) 42))
noncomputable def n_39_38 : e_Y := u_push (.inl 2147483696) n_39_40
theorem t_39_38 : e_Sn 39 38 (e_un n_39_38) := u_pushT (s_bipush (n := (48)) hq_39 (by decide +kernel) rfl ⟨by decide +kernel, by decide +kernel⟩ : e_Sn 39 38 (o_push (.inl 2147483696) 40)) t_39_40
noncomputable def n_39_37 : e_Y := u_ld f_okA f_l0 n_39_38
theorem t_39_37 : e_Sn 39 37 (e_un n_39_37) := u_ldAT f_l0_eq (s_aload (i := .aload_n 0) (len := 1) hq_39 (by decide +kernel) rfl (.inr ⟨0, rfl, rfl, rfl⟩) : e_Sn 39 37 (o_load e_okR 0 38)) t_39_38
noncomputable def n_39_34 : e_Y := u_old (o_putf (e_f1 6 11) e_okR 37) n_39_37
theorem t_39_34 : e_Sn 39 34 (e_un n_39_34) := u_oldT (s_putf (ty0 := ey_6) (ok := e_okR) (C := er_6) (T := et_6) (N := 17) (ref := "Plateroomprinter$Painter") (index := 25) (ci := 6) (k := 11) hq_39 ho_39 ⟨rfl, by decide, ei_6, (List.mem_of_getElem? (i := 569) (by decide +kernel)), .inl rfl⟩ eo_6 en_6 e_oksA (.inr ⟨rfl, rfl, rfl⟩) (by decide +kernel) rfl : e_Sn 39 34 (o_putf (e_f1 6 11) e_okR 37)) t_39_37 (e_cg_putf (e_f1 6 11) e_okR)
noncomputable def n_39_32 : e_Y := u_tab (o_newa 0 (e_I 2147483648) 34)
theorem t_39_32 : e_Sn 39 32 (e_un n_39_32) := u_tabT (s_newI (List.mem_of_getElem? (i := 215) (by decide +kernel)) hq_39 (by decide +kernel) rfl : e_Sn 39 32 (o_newa 0 (e_I 2147483648) 34))
noncomputable def n_39_31 : e_Y := u_push (.inl 2147483652) n_39_32
theorem t_39_31 : e_Sn 39 31 (e_un n_39_31) := u_pushT (s_iconst (n := (4)) hq_39 (by decide +kernel) rfl ⟨by decide +kernel, by decide +kernel⟩ : e_Sn 39 31 (o_push (.inl 2147483652) 32)) t_39_32
noncomputable def n_39_30 : e_Y := u_ld f_okA f_l0 n_39_31
theorem t_39_30 : e_Sn 39 30 (e_un n_39_30) := u_ldAT f_l0_eq (s_aload (i := .aload_n 0) (len := 1) hq_39 (by decide +kernel) rfl (.inr ⟨0, rfl, rfl, rfl⟩) : e_Sn 39 30 (o_load e_okR 0 31)) t_39_31
noncomputable def n_39_27 : e_Y := u_old (o_putf (e_f1 6 10) e_okR 30) n_39_30
theorem t_39_27 : e_Sn 39 27 (e_un n_39_27) := u_oldT (s_putf (ty0 := ey_6) (ok := e_okR) (C := er_6) (T := et_6) (N := 17) (ref := "Plateroomprinter$Painter") (index := 22) (ci := 6) (k := 10) hq_39 ho_39 ⟨rfl, by decide, ei_6, (List.mem_of_getElem? (i := 568) (by decide +kernel)), .inl rfl⟩ eo_6 en_6 e_oksA (.inr ⟨rfl, rfl, rfl⟩) (by decide +kernel) rfl : e_Sn 39 27 (o_putf (e_f1 6 10) e_okR 30)) t_39_30 (e_cg_putf (e_f1 6 10) e_okR)
noncomputable def n_39_25 : e_Y := u_tab (o_newa 0 (e_I 2147483648) 27)
theorem t_39_25 : e_Sn 39 25 (e_un n_39_25) := u_tabT (s_newI (List.mem_of_getElem? (i := 215) (by decide +kernel)) hq_39 (by decide +kernel) rfl : e_Sn 39 25 (o_newa 0 (e_I 2147483648) 27))
noncomputable def n_39_24 : e_Y := u_push (.inl 2147483652) n_39_25
theorem t_39_24 : e_Sn 39 24 (e_un n_39_24) := u_pushT (s_iconst (n := (4)) hq_39 (by decide +kernel) rfl ⟨by decide +kernel, by decide +kernel⟩ : e_Sn 39 24 (o_push (.inl 2147483652) 25)) t_39_25
noncomputable def n_39_23 : e_Y := u_ld f_okA f_l0 n_39_24
theorem t_39_23 : e_Sn 39 23 (e_un n_39_23) := u_ldAT f_l0_eq (s_aload (i := .aload_n 0) (len := 1) hq_39 (by decide +kernel) rfl (.inr ⟨0, rfl, rfl, rfl⟩) : e_Sn 39 23 (o_load e_okR 0 24)) t_39_24
noncomputable def n_39_20 : e_Y := u_old (o_putf (e_f1 6 9) e_okR 23) n_39_23
theorem t_39_20 : e_Sn 39 20 (e_un n_39_20) := u_oldT (s_putf (ty0 := ey_6) (ok := e_okR) (C := er_6) (T := et_6) (N := 17) (ref := "Plateroomprinter$Painter") (index := 18) (ci := 6) (k := 9) hq_39 ho_39 ⟨rfl, by decide, ei_6, (List.mem_of_getElem? (i := 567) (by decide +kernel)), .inl rfl⟩ eo_6 en_6 e_oksR (.inr ⟨rfl, rfl, rfl⟩) (by decide +kernel) rfl : e_Sn 39 20 (o_putf (e_f1 6 9) e_okR 23)) t_39_23 (e_cg_putf (e_f1 6 9) e_okR)
noncomputable def n_39_17 : e_Y := u_tab (o_callI 43 1 1 20)
theorem t_39_17 : e_Sn 39 17 (e_un n_39_17) := u_tabT (s_callIN (host := "Plateroomprinter") (index := 17) hq_39 ho_39 hy_43 hp_43 hc_43 hi_43 hd_43 (List.mem_of_getElem? (i := 557) (by decide +kernel)) rfl rfl hs_43 (by decide +kernel) rfl : e_Sn 39 17 (o_callI 43 1 1 20))
noncomputable def n_39_16 : e_Y := u_old (o_dup 17) n_39_17
theorem t_39_16 : e_Sn 39 16 (e_un n_39_16) := u_oldT (s_dup hq_39 (by decide +kernel) rfl : e_Sn 39 16 (o_dup 17)) t_39_17 e_cg_dup
noncomputable def n_39_13 : e_Y := u_tab (o_new 7 6 ef_7 16)
theorem t_39_13 : e_Sn 39 13 (e_un n_39_13) := u_tabT (s_new (index := 15) (ci := 7) (N := 6) (C := er_7) (T := et_7) (ty0 := ey_7) (fv := eg_7) hq_39 ho_39 rfl ei_7 eo_7 (List.mem_of_getElem? (i := 556) (by decide +kernel)) (List.mem_of_getElem? (i := 281) (by decide +kernel)) (List.mem_of_getElem? (i := 145) (by decide +kernel)) eh_7 rfl (e_newrel ek_7) (by decide +kernel) rfl : e_Sn 39 13 (o_new 7 6 ef_7 16))
noncomputable def n_39_12 : e_Y := u_ld f_okA f_l0 n_39_13
theorem t_39_12 : e_Sn 39 12 (e_un n_39_12) := u_ldAT f_l0_eq (s_aload (i := .aload_n 0) (len := 1) hq_39 (by decide +kernel) rfl (.inr ⟨0, rfl, rfl, rfl⟩) : e_Sn 39 12 (o_load e_okR 0 13)) t_39_13
noncomputable def n_39_9 : e_Y := u_old (o_putf (e_f1 6 3) e_okR 12) n_39_12
theorem t_39_9 : e_Sn 39 9 (e_un n_39_9) := u_oldT (s_putf (ty0 := ey_6) (ok := e_okR) (C := er_6) (T := et_6) (N := 17) (ref := "Plateroomprinter$Painter") (index := 9) (ci := 6) (k := 3) hq_39 ho_39 ⟨rfl, by decide, ei_6, (List.mem_of_getElem? (i := 561) (by decide +kernel)), .inl rfl⟩ eo_6 en_6 e_oksA (.inr ⟨rfl, rfl, rfl⟩) (by decide +kernel) rfl : e_Sn 39 9 (o_putf (e_f1 6 3) e_okR 12)) t_39_12 (e_cg_putf (e_f1 6 3) e_okR)
noncomputable def n_39_7 : e_Y := u_tab (o_newa 0 (e_I 2147483648) 9)
theorem t_39_7 : e_Sn 39 7 (e_un n_39_7) := u_tabT (s_newI (List.mem_of_getElem? (i := 215) (by decide +kernel)) hq_39 (by decide +kernel) rfl : e_Sn 39 7 (o_newa 0 (e_I 2147483648) 9))
noncomputable def n_39_5 : e_Y := u_push (.inl 2147483680) n_39_7
theorem t_39_5 : e_Sn 39 5 (e_un n_39_5) := u_pushT (s_bipush (n := (32)) hq_39 (by decide +kernel) rfl ⟨by decide +kernel, by decide +kernel⟩ : e_Sn 39 5 (o_push (.inl 2147483680) 7)) t_39_7
noncomputable def n_39_4 : e_Y := u_ld f_okA f_l0 n_39_5
theorem t_39_4 : e_Sn 39 4 (e_un n_39_4) := u_ldAT f_l0_eq (s_aload (i := .aload_n 0) (len := 1) hq_39 (by decide +kernel) rfl (.inr ⟨0, rfl, rfl, rfl⟩) : e_Sn 39 4 (o_load e_okR 0 5)) t_39_5
noncomputable def n_39_1 : e_Y := u_tab (o_oinit 4)
theorem t_39_1 : e_Sn 39 1 (e_un n_39_1) := u_tabT (s_oinit (idx := 3) hq_39 ho_39 (List.mem_of_getElem? (i := 555) (by decide +kernel)) (List.mem_of_getElem? (i := 190) (by decide +kernel)) (List.mem_of_getElem? (i := 191) (by decide +kernel)) (by decide +kernel) rfl : e_Sn 39 1 (o_oinit 4))
noncomputable def n_39_0 : e_Y := u_ld f_okA f_l0 n_39_1
theorem t_39_0 : e_Sn 39 0 (e_un n_39_0) := u_ldAT f_l0_eq (s_aload (i := .aload_n 0) (len := 1) hq_39 (by decide +kernel) rfl (.inr ⟨0, rfl, rfl, rfl⟩) : e_Sn 39 0 (o_load e_okR 0 1)) t_39_1
noncomputable def e_tb_39 : e_X := (e_br 27 (e_br 9 (e_br 4 (e_lf 0 (e_un n_39_0)) (e_lf 4 (e_un n_39_4))) (e_br 16 (e_lf 9 (e_un n_39_9)) (e_br 20 (e_lf 16 (e_un n_39_16)) (e_lf 20 (e_un n_39_20))))) (e_br 50 (e_br 34 (e_lf 27 (e_un n_39_27)) (e_br 42 (e_lf 34 (e_un n_39_34)) (e_lf 42 (e_un n_39_42)))) (e_br 58 (e_lf 50 (e_un n_39_50)) (e_br 66 (e_lf 58 (e_un n_39_58)) (e_lf 66 (e_un n_39_66))))))
theorem e_tk_39 : e_Tb 39 e_tb_39 := (e_brT (e_brT (e_brT (e_lfT t_39_0) (e_lfT t_39_4)) (e_brT (e_lfT t_39_9) (e_brT (e_lfT t_39_16) (e_lfT t_39_20)))) (e_brT (e_brT (e_lfT t_39_27) (e_brT (e_lfT t_39_34) (e_lfT t_39_42))) (e_brT (e_lfT t_39_50) (e_brT (e_lfT t_39_58) (e_lfT t_39_66)))))
theorem hq_46 : (e_ml[46]?).map (·.2.1) = some prog_9_method_1_code := rfl
theorem ho_46 : (e_ml[46]?).map (·.1.cls) = some "Plateroomprinter$Raster" := rfl
theorem hr_46 : (e_ml[46]?).map (·.2.2.2) = some none := rfl
noncomputable def n_46_24 : e_Y := u_tab (o_retv)
theorem t_46_24 : e_Sn 46 24 (e_un n_46_24) := u_tabT (s_vret hq_46 hr_46 (by decide +kernel) : e_Sn 46 24 (o_retv))
noncomputable def n_46_21 : e_Y := u_old (o_putf (e_f1 8 2) e_okI 24) n_46_24
theorem t_46_21 : e_Sn 46 21 (e_un n_46_21) := u_oldT (s_putf (ty0 := ey_8) (ok := e_okI) (C := er_8) (T := et_8) (N := 3) (ref := "Plateroomprinter$Raster") (index := 19) (ci := 8) (k := 2) hq_46 ho_46 ⟨rfl, by decide, ei_8, (List.mem_of_getElem? (i := 542) (by decide +kernel)), .inl rfl⟩ eo_8 en_8 e_oksI (.inl rfl) (by decide +kernel) rfl : e_Sn 46 21 (o_putf (e_f1 8 2) e_okI 24)) t_46_24 (e_cg_putf (e_f1 8 2) e_okI)
noncomputable def n_46_20 : e_Y := u_push (.inl 2147483647) n_46_21
theorem t_46_20 : e_Sn 46 20 (e_un n_46_20) := u_pushT (s_iconst (n := (-1)) hq_46 (by decide +kernel) rfl ⟨by decide +kernel, by decide +kernel⟩ : e_Sn 46 20 (o_push (.inl 2147483647) 21)) t_46_21
noncomputable def n_46_19 : e_Y := u_ld f_okA f_l0 n_46_20
theorem t_46_19 : e_Sn 46 19 (e_un n_46_19) := u_ldAT f_l0_eq (s_aload (i := .aload_n 0) (len := 1) hq_46 (by decide +kernel) rfl (.inr ⟨0, rfl, rfl, rfl⟩) : e_Sn 46 19 (o_load e_okR 0 20)) t_46_20
noncomputable def n_46_16 : e_Y := u_old (o_putf (e_f1 8 1) e_okI 19) n_46_19
theorem t_46_16 : e_Sn 46 16 (e_un n_46_16) := u_oldT (s_putf (ty0 := ey_8) (ok := e_okI) (C := er_8) (T := et_8) (N := 3) (ref := "Plateroomprinter$Raster") (index := 15) (ci := 8) (k := 1) hq_46 ho_46 ⟨rfl, by decide, ei_8, (List.mem_of_getElem? (i := 541) (by decide +kernel)), .inl rfl⟩ eo_8 en_8 e_oksI (.inl rfl) (by decide +kernel) rfl : e_Sn 46 16 (o_putf (e_f1 8 1) e_okI 19)) t_46_19 (e_cg_putf (e_f1 8 1) e_okI)
noncomputable def n_46_14 : e_Y := u_push (.inl 2147483680) n_46_16
theorem t_46_14 : e_Sn 46 14 (e_un n_46_14) := u_pushT (s_bipush (n := (32)) hq_46 (by decide +kernel) rfl ⟨by decide +kernel, by decide +kernel⟩ : e_Sn 46 14 (o_push (.inl 2147483680) 16)) t_46_16
noncomputable def n_46_13 : e_Y := u_ld f_okA f_l0 n_46_14
theorem t_46_13 : e_Sn 46 13 (e_un n_46_13) := u_ldAT f_l0_eq (s_aload (i := .aload_n 0) (len := 1) hq_46 (by decide +kernel) rfl (.inr ⟨0, rfl, rfl, rfl⟩) : e_Sn 46 13 (o_load e_okR 0 14)) t_46_14
noncomputable def n_46_10 : e_Y := u_old (o_putf (e_f1 8 0) e_okR 13) n_46_13
theorem t_46_10 : e_Sn 46 10 (e_un n_46_10) := u_oldT (s_putf (ty0 := ey_8) (ok := e_okR) (C := er_8) (T := et_8) (N := 3) (ref := "Plateroomprinter$Raster") (index := 9) (ci := 8) (k := 0) hq_46 ho_46 ⟨rfl, by decide, ei_8, (List.mem_of_getElem? (i := 540) (by decide +kernel)), .inl rfl⟩ eo_8 en_8 e_oksA (.inr ⟨rfl, rfl, rfl⟩) (by decide +kernel) rfl : e_Sn 46 10 (o_putf (e_f1 8 0) e_okR 13)) t_46_13 (e_cg_putf (e_f1 8 0) e_okR)
noncomputable def n_46_8 : e_Y := u_tab (o_newa 0 (e_I 2147483648) 10)
theorem t_46_8 : e_Sn 46 8 (e_un n_46_8) := u_tabT (s_newI (List.mem_of_getElem? (i := 215) (by decide +kernel)) hq_46 (by decide +kernel) rfl : e_Sn 46 8 (o_newa 0 (e_I 2147483648) 10))
noncomputable def n_46_5 : e_Y := u_push (.inl 2147484672) n_46_8
theorem t_46_5 : e_Sn 46 5 (e_un n_46_5) := u_pushT (s_sipush (n := (1024)) hq_46 (by decide +kernel) rfl ⟨by decide +kernel, by decide +kernel⟩ : e_Sn 46 5 (o_push (.inl 2147484672) 8)) t_46_8
noncomputable def n_46_4 : e_Y := u_ld f_okA f_l0 n_46_5
theorem t_46_4 : e_Sn 46 4 (e_un n_46_4) := u_ldAT f_l0_eq (s_aload (i := .aload_n 0) (len := 1) hq_46 (by decide +kernel) rfl (.inr ⟨0, rfl, rfl, rfl⟩) : e_Sn 46 4 (o_load e_okR 0 5)) t_46_5
noncomputable def n_46_1 : e_Y := u_tab (o_oinit 4)
theorem t_46_1 : e_Sn 46 1 (e_un n_46_1) := u_tabT (s_oinit (idx := 3) hq_46 ho_46 (List.mem_of_getElem? (i := 539) (by decide +kernel)) (List.mem_of_getElem? (i := 190) (by decide +kernel)) (List.mem_of_getElem? (i := 191) (by decide +kernel)) (by decide +kernel) rfl : e_Sn 46 1 (o_oinit 4))
noncomputable def n_46_0 : e_Y := u_ld f_okA f_l0 n_46_1
theorem t_46_0 : e_Sn 46 0 (e_un n_46_0) := u_ldAT f_l0_eq (s_aload (i := .aload_n 0) (len := 1) hq_46 (by decide +kernel) rfl (.inr ⟨0, rfl, rfl, rfl⟩) : e_Sn 46 0 (o_load e_okR 0 1)) t_46_1
noncomputable def e_tb_46 : e_X := (e_br 4 (e_lf 0 (e_un n_46_0)) (e_br 10 (e_lf 4 (e_un n_46_4)) (e_lf 10 (e_un n_46_10))))
theorem e_tk_46 : e_Tb 46 e_tb_46 := (e_brT (e_lfT t_46_0) (e_brT (e_lfT t_46_4) (e_lfT t_46_10)))
theorem hq_47 : (e_ml[47]?).map (·.2.1) = some prog_10_method_1_code := rfl
theorem ho_47 : (e_ml[47]?).map (·.1.cls) = some "Plateroomprinter$Sheet" := rfl
theorem hr_47 : (e_ml[47]?).map (·.2.2.2) = some none := rfl
noncomputable def n_47_13 : e_Y := u_tab (o_retv)
theorem t_47_13 : e_Sn 47 13 (e_un n_47_13) := u_tabT (s_vret hq_47 hr_47 (by decide +kernel) : e_Sn 47 13 (o_retv))
noncomputable def n_47_10 : e_Y := u_old (o_putf (e_f1 9 0) e_okR 13) n_47_13
theorem t_47_10 : e_Sn 47 10 (e_un n_47_10) := u_oldT (s_putf (ty0 := ey_9) (ok := e_okR) (C := er_9) (T := et_9) (N := 1) (ref := "Plateroomprinter$Sheet") (index := 9) (ci := 9) (k := 0) hq_47 ho_47 ⟨rfl, by decide, ei_9, (List.mem_of_getElem? (i := 381) (by decide +kernel)), .inl rfl⟩ eo_9 en_9 e_oksA (.inr ⟨rfl, rfl, rfl⟩) (by decide +kernel) rfl : e_Sn 47 10 (o_putf (e_f1 9 0) e_okR 13)) t_47_13 (e_cg_putf (e_f1 9 0) e_okR)
noncomputable def n_47_8 : e_Y := u_tab (o_newa 0 (e_I 2147483648) 10)
theorem t_47_8 : e_Sn 47 8 (e_un n_47_8) := u_tabT (s_newI (List.mem_of_getElem? (i := 215) (by decide +kernel)) hq_47 (by decide +kernel) rfl : e_Sn 47 8 (o_newa 0 (e_I 2147483648) 10))
noncomputable def n_47_5 : e_Y := u_push (.inl 2147483776) n_47_8
theorem t_47_5 : e_Sn 47 5 (e_un n_47_5) := u_pushT (s_sipush (n := (128)) hq_47 (by decide +kernel) rfl ⟨by decide +kernel, by decide +kernel⟩ : e_Sn 47 5 (o_push (.inl 2147483776) 8)) t_47_8
noncomputable def n_47_4 : e_Y := u_ld f_okA f_l0 n_47_5
theorem t_47_4 : e_Sn 47 4 (e_un n_47_4) := u_ldAT f_l0_eq (s_aload (i := .aload_n 0) (len := 1) hq_47 (by decide +kernel) rfl (.inr ⟨0, rfl, rfl, rfl⟩) : e_Sn 47 4 (o_load e_okR 0 5)) t_47_5
noncomputable def n_47_1 : e_Y := u_tab (o_oinit 4)
theorem t_47_1 : e_Sn 47 1 (e_un n_47_1) := u_tabT (s_oinit (idx := 3) hq_47 ho_47 (List.mem_of_getElem? (i := 380) (by decide +kernel)) (List.mem_of_getElem? (i := 190) (by decide +kernel)) (List.mem_of_getElem? (i := 191) (by decide +kernel)) (by decide +kernel) rfl : e_Sn 47 1 (o_oinit 4))
noncomputable def n_47_0 : e_Y := u_ld f_okA f_l0 n_47_1
theorem t_47_0 : e_Sn 47 0 (e_un n_47_0) := u_ldAT f_l0_eq (s_aload (i := .aload_n 0) (len := 1) hq_47 (by decide +kernel) rfl (.inr ⟨0, rfl, rfl, rfl⟩) : e_Sn 47 0 (o_load e_okR 0 1)) t_47_1
noncomputable def e_tb_47 : e_X := (e_br 4 (e_lf 0 (e_un n_47_0)) (e_br 10 (e_lf 4 (e_un n_47_4)) (e_lf 10 (e_un n_47_10))))
theorem e_tk_47 : e_Tb 47 e_tb_47 := (e_brT (e_lfT t_47_0) (e_brT (e_lfT t_47_4) (e_lfT t_47_10)))
theorem hq_26 : (e_ml[26]?).map (·.2.1) = some prog_4_method_1_code := rfl
theorem ho_26 : (e_ml[26]?).map (·.1.cls) = some "Plateroomprinter$Figures" := rfl
theorem hr_26 : (e_ml[26]?).map (·.2.2.2) = some none := rfl
noncomputable def n_26_38 : e_Y := u_tab (o_retv)
theorem t_26_38 : e_Sn 26 38 (e_un n_26_38) := u_tabT (s_vret hq_26 hr_26 (by decide +kernel) : e_Sn 26 38 (o_retv))
noncomputable def n_26_35 : e_Y := u_old (o_putf (e_f1 3 3) e_okR 38) n_26_38
theorem t_26_35 : e_Sn 26 35 (e_un n_26_35) := u_oldT (s_putf (ty0 := ey_3) (ok := e_okR) (C := er_3) (T := et_3) (N := 5) (ref := "Plateroomprinter$Figures") (index := 21) (ci := 3) (k := 3) hq_26 ho_26 ⟨rfl, by decide, ei_3, (List.mem_of_getElem? (i := 398) (by decide +kernel)), .inl rfl⟩ eo_3 en_3 e_oksA (.inr ⟨rfl, rfl, rfl⟩) (by decide +kernel) rfl : e_Sn 26 35 (o_putf (e_f1 3 3) e_okR 38)) t_26_38 (e_cg_putf (e_f1 3 3) e_okR)
noncomputable def n_26_33 : e_Y := u_tab (o_newa 0 (e_I 2147483648) 35)
theorem t_26_33 : e_Sn 26 33 (e_un n_26_33) := u_tabT (s_newI (List.mem_of_getElem? (i := 215) (by decide +kernel)) hq_26 (by decide +kernel) rfl : e_Sn 26 33 (o_newa 0 (e_I 2147483648) 35))
noncomputable def n_26_31 : e_Y := u_push (.inl 2147483708) n_26_33
theorem t_26_31 : e_Sn 26 31 (e_un n_26_31) := u_pushT (s_bipush (n := (60)) hq_26 (by decide +kernel) rfl ⟨by decide +kernel, by decide +kernel⟩ : e_Sn 26 31 (o_push (.inl 2147483708) 33)) t_26_33
noncomputable def n_26_30 : e_Y := u_ld f_okA f_l0 n_26_31
theorem t_26_30 : e_Sn 26 30 (e_un n_26_30) := u_ldAT f_l0_eq (s_aload (i := .aload_n 0) (len := 1) hq_26 (by decide +kernel) rfl (.inr ⟨0, rfl, rfl, rfl⟩) : e_Sn 26 30 (o_load e_okR 0 31)) t_26_31
noncomputable def n_26_27 : e_Y := u_old (o_putf (e_f1 3 2) e_okR 30) n_26_30
theorem t_26_27 : e_Sn 26 27 (e_un n_26_27) := u_oldT (s_putf (ty0 := ey_3) (ok := e_okR) (C := er_3) (T := et_3) (N := 5) (ref := "Plateroomprinter$Figures") (index := 18) (ci := 3) (k := 2) hq_26 ho_26 ⟨rfl, by decide, ei_3, (List.mem_of_getElem? (i := 396) (by decide +kernel)), .inl rfl⟩ eo_3 en_3 e_oksA (.inr ⟨rfl, rfl, rfl⟩) (by decide +kernel) rfl : e_Sn 26 27 (o_putf (e_f1 3 2) e_okR 30)) t_26_30 (e_cg_putf (e_f1 3 2) e_okR)
noncomputable def n_26_25 : e_Y := u_tab (o_newa 0 (e_I 2147483648) 27)
theorem t_26_25 : e_Sn 26 25 (e_un n_26_25) := u_tabT (s_newI (List.mem_of_getElem? (i := 215) (by decide +kernel)) hq_26 (by decide +kernel) rfl : e_Sn 26 25 (o_newa 0 (e_I 2147483648) 27))
noncomputable def n_26_23 : e_Y := u_push (.inl 2147483708) n_26_25
theorem t_26_23 : e_Sn 26 23 (e_un n_26_23) := u_pushT (s_bipush (n := (60)) hq_26 (by decide +kernel) rfl ⟨by decide +kernel, by decide +kernel⟩ : e_Sn 26 23 (o_push (.inl 2147483708) 25)) t_26_25
noncomputable def n_26_22 : e_Y := u_ld f_okA f_l0 n_26_23
theorem t_26_22 : e_Sn 26 22 (e_un n_26_22) := u_ldAT f_l0_eq (s_aload (i := .aload_n 0) (len := 1) hq_26 (by decide +kernel) rfl (.inr ⟨0, rfl, rfl, rfl⟩) : e_Sn 26 22 (o_load e_okR 0 23)) t_26_23
noncomputable def n_26_19 : e_Y := u_old (o_putf (e_f1 3 1) e_okR 22) n_26_22
theorem t_26_19 : e_Sn 26 19 (e_un n_26_19) := u_oldT (s_putf (ty0 := ey_3) (ok := e_okR) (C := er_3) (T := et_3) (N := 5) (ref := "Plateroomprinter$Figures") (index := 15) (ci := 3) (k := 1) hq_26 ho_26 ⟨rfl, by decide, ei_3, (List.mem_of_getElem? (i := 394) (by decide +kernel)), .inl rfl⟩ eo_3 en_3 e_oksA (.inr ⟨rfl, rfl, rfl⟩) (by decide +kernel) rfl : e_Sn 26 19 (o_putf (e_f1 3 1) e_okR 22)) t_26_22 (e_cg_putf (e_f1 3 1) e_okR)
noncomputable def n_26_17 : e_Y := u_tab (o_newa 0 (e_I 2147483648) 19)
theorem t_26_17 : e_Sn 26 17 (e_un n_26_17) := u_tabT (s_newI (List.mem_of_getElem? (i := 215) (by decide +kernel)) hq_26 (by decide +kernel) rfl : e_Sn 26 17 (o_newa 0 (e_I 2147483648) 19))
noncomputable def n_26_14 : e_Y := u_push (.inl 2147483888) n_26_17
theorem t_26_14 : e_Sn 26 14 (e_un n_26_14) := u_pushT (s_sipush (n := (240)) hq_26 (by decide +kernel) rfl ⟨by decide +kernel, by decide +kernel⟩ : e_Sn 26 14 (o_push (.inl 2147483888) 17)) t_26_17
noncomputable def n_26_13 : e_Y := u_ld f_okA f_l0 n_26_14
theorem t_26_13 : e_Sn 26 13 (e_un n_26_13) := u_ldAT f_l0_eq (s_aload (i := .aload_n 0) (len := 1) hq_26 (by decide +kernel) rfl (.inr ⟨0, rfl, rfl, rfl⟩) : e_Sn 26 13 (o_load e_okR 0 14)) t_26_14
noncomputable def n_26_10 : e_Y := u_old (o_putf (e_f1 3 0) e_okR 13) n_26_13
theorem t_26_10 : e_Sn 26 10 (e_un n_26_10) := u_oldT (s_putf (ty0 := ey_3) (ok := e_okR) (C := er_3) (T := et_3) (N := 5) (ref := "Plateroomprinter$Figures") (index := 9) (ci := 3) (k := 0) hq_26 ho_26 ⟨rfl, by decide, ei_3, (List.mem_of_getElem? (i := 392) (by decide +kernel)), .inl rfl⟩ eo_3 en_3 e_oksA (.inr ⟨rfl, rfl, rfl⟩) (by decide +kernel) rfl : e_Sn 26 10 (o_putf (e_f1 3 0) e_okR 13)) t_26_13 (e_cg_putf (e_f1 3 0) e_okR)
noncomputable def n_26_8 : e_Y := u_tab (o_newa 0 (e_I 2147483648) 10)
theorem t_26_8 : e_Sn 26 8 (e_un n_26_8) := u_tabT (s_newI (List.mem_of_getElem? (i := 215) (by decide +kernel)) hq_26 (by decide +kernel) rfl : e_Sn 26 8 (o_newa 0 (e_I 2147483648) 10))
noncomputable def n_26_5 : e_Y := u_push (.inl 2147485568) n_26_8
theorem t_26_5 : e_Sn 26 5 (e_un n_26_5) := u_pushT (s_sipush (n := (1920)) hq_26 (by decide +kernel) rfl ⟨by decide +kernel, by decide +kernel⟩ : e_Sn 26 5 (o_push (.inl 2147485568) 8)) t_26_8
noncomputable def n_26_4 : e_Y := u_ld f_okA f_l0 n_26_5
theorem t_26_4 : e_Sn 26 4 (e_un n_26_4) := u_ldAT f_l0_eq (s_aload (i := .aload_n 0) (len := 1) hq_26 (by decide +kernel) rfl (.inr ⟨0, rfl, rfl, rfl⟩) : e_Sn 26 4 (o_load e_okR 0 5)) t_26_5
noncomputable def n_26_1 : e_Y := u_tab (o_oinit 4)
theorem t_26_1 : e_Sn 26 1 (e_un n_26_1) := u_tabT (s_oinit (idx := 3) hq_26 ho_26 (List.mem_of_getElem? (i := 391) (by decide +kernel)) (List.mem_of_getElem? (i := 190) (by decide +kernel)) (List.mem_of_getElem? (i := 191) (by decide +kernel)) (by decide +kernel) rfl : e_Sn 26 1 (o_oinit 4))
noncomputable def n_26_0 : e_Y := u_ld f_okA f_l0 n_26_1
theorem t_26_0 : e_Sn 26 0 (e_un n_26_0) := u_ldAT f_l0_eq (s_aload (i := .aload_n 0) (len := 1) hq_26 (by decide +kernel) rfl (.inr ⟨0, rfl, rfl, rfl⟩) : e_Sn 26 0 (o_load e_okR 0 1)) t_26_1
noncomputable def e_tb_26 : e_X := (e_br 19 (e_br 4 (e_lf 0 (e_un n_26_0)) (e_br 10 (e_lf 4 (e_un n_26_4)) (e_lf 10 (e_un n_26_10)))) (e_br 27 (e_lf 19 (e_un n_26_19)) (e_br 35 (e_lf 27 (e_un n_26_27)) (e_lf 35 (e_un n_26_35)))))
theorem e_tk_26 : e_Tb 26 e_tb_26 := (e_brT (e_brT (e_lfT t_26_0) (e_brT (e_lfT t_26_4) (e_lfT t_26_10))) (e_brT (e_lfT t_26_19) (e_brT (e_lfT t_26_27) (e_lfT t_26_35))))
theorem hq_98 : (e_ml[98]?).map (·.2.1) = some prog_37_method_65_code := rfl
theorem ho_98 : (e_ml[98]?).map (·.1.cls) = some "java/lang/Math" := rfl
theorem hr_98 : (e_ml[98]?).map (·.2.2.2) = some (some .int) := rfl
noncomputable def n_98_10 : e_Y := u_retI
theorem t_98_10 : e_Sn 98 10 (e_un n_98_10) := u_retIT (s_iret hq_98 hr_98 (by decide +kernel) : e_Sn 98 10 (o_ret e_okI))
noncomputable def n_98_9 : e_Y := u_ld f_okI f_l1 n_98_10
theorem t_98_9 : e_Sn 98 9 (e_un n_98_9) := u_ldIT f_l1_eq (s_iload (i := .iload_n 1) (len := 1) hq_98 (by decide +kernel) rfl (.inr ⟨1, rfl, rfl, rfl⟩) : e_Sn 98 9 (o_load e_okI 1 10)) t_98_10
noncomputable def n_98_6 : e_Y := n_98_10
theorem t_98_6 : e_Sn 98 6 (e_un n_98_6) := u_gotoT (s_goto (off := (4)) hq_98 (by decide +kernel) rfl : e_Sn 98 6 (o_goto 10)) t_98_10
noncomputable def n_98_5 : e_Y := u_ld f_okI f_l0 n_98_6
theorem t_98_5 : e_Sn 98 5 (e_un n_98_5) := u_ldIT f_l0_eq (s_iload (i := .iload_n 0) (len := 1) hq_98 (by decide +kernel) rfl (.inr ⟨0, rfl, rfl, rfl⟩) : e_Sn 98 5 (o_load e_okI 0 6)) t_98_6
noncomputable def n_98_2 : e_Y := u_jmp y_ge (u_old2 (o_clt 9 5) 9 n_98_9 n_98_5) n_98_9 n_98_5
theorem t_98_2 : e_Sn 98 2 (e_un n_98_2) := u_cltT rfl (s_clt (off := (7)) hq_98 (by decide +kernel) rfl rfl : e_Sn 98 2 (o_clt 9 5)) t_98_9 t_98_5
noncomputable def n_98_1 : e_Y := u_ld f_okI f_l1 n_98_2
theorem t_98_1 : e_Sn 98 1 (e_un n_98_1) := u_ldIT f_l1_eq (s_iload (i := .iload_n 1) (len := 1) hq_98 (by decide +kernel) rfl (.inr ⟨1, rfl, rfl, rfl⟩) : e_Sn 98 1 (o_load e_okI 1 2)) t_98_2
noncomputable def n_98_0 : e_Y := u_ld f_okI f_l0 n_98_1
theorem t_98_0 : e_Sn 98 0 (e_un n_98_0) := u_ldIT f_l0_eq (s_iload (i := .iload_n 0) (len := 1) hq_98 (by decide +kernel) rfl (.inr ⟨0, rfl, rfl, rfl⟩) : e_Sn 98 0 (o_load e_okI 0 1)) t_98_1
noncomputable def e_tb_98 : e_X := (e_lf 0 (e_un n_98_0))
theorem e_tk_98 : e_Tb 98 e_tb_98 := (e_lfT t_98_0)
theorem hq_28 : (e_ml[28]?).map (·.2.1) = some prog_5_method_1_code := rfl
theorem ho_28 : (e_ml[28]?).map (·.1.cls) = some "Plateroomprinter$Items" := rfl
theorem hr_28 : (e_ml[28]?).map (·.2.2.2) = some none := rfl
noncomputable def n_28_48 : e_Y := u_tab (o_retv)
theorem t_28_48 : e_Sn 28 48 (e_un n_28_48) := u_tabT (s_vret hq_28 hr_28 (by decide +kernel) : e_Sn 28 48 (o_retv))
noncomputable def n_28_45 : e_Y := u_old (o_putf (e_f1 4 4) e_okI 48) n_28_48
theorem t_28_45 : e_Sn 28 45 (e_un n_28_45) := u_oldT (s_putf (ty0 := ey_4) (ok := e_okI) (C := er_4) (T := et_4) (N := 5) (ref := "Plateroomprinter$Items") (index := 31) (ci := 4) (k := 4) hq_28 ho_28 ⟨rfl, by decide, ei_4, (List.mem_of_getElem? (i := 235) (by decide +kernel)), .inl rfl⟩ eo_4 en_4 e_oksI (.inl rfl) (by decide +kernel) rfl : e_Sn 28 45 (o_putf (e_f1 4 4) e_okI 48)) t_28_48 (e_cg_putf (e_f1 4 4) e_okI)
noncomputable def n_28_44 : e_Y := u_push (.inl 2147483648) n_28_45
theorem t_28_44 : e_Sn 28 44 (e_un n_28_44) := u_pushT (s_iconst (n := (0)) hq_28 (by decide +kernel) rfl ⟨by decide +kernel, by decide +kernel⟩ : e_Sn 28 44 (o_push (.inl 2147483648) 45)) t_28_45
noncomputable def n_28_43 : e_Y := u_ld f_okA f_l0 n_28_44
theorem t_28_43 : e_Sn 28 43 (e_un n_28_43) := u_ldAT f_l0_eq (s_aload (i := .aload_n 0) (len := 1) hq_28 (by decide +kernel) rfl (.inr ⟨0, rfl, rfl, rfl⟩) : e_Sn 28 43 (o_load e_okR 0 44)) t_28_44
noncomputable def n_28_40 : e_Y := u_old (o_putf (e_f1 4 3) e_okR 43) n_28_43
theorem t_28_40 : e_Sn 28 40 (e_un n_28_40) := u_oldT (s_putf (ty0 := ey_4) (ok := e_okR) (C := er_4) (T := et_4) (N := 5) (ref := "Plateroomprinter$Items") (index := 28) (ci := 4) (k := 3) hq_28 ho_28 ⟨rfl, by decide, ei_4, (List.mem_of_getElem? (i := 234) (by decide +kernel)), .inl rfl⟩ eo_4 en_4 e_oksA (.inr ⟨rfl, rfl, rfl⟩) (by decide +kernel) rfl : e_Sn 28 40 (o_putf (e_f1 4 3) e_okR 43)) t_28_43 (e_cg_putf (e_f1 4 3) e_okR)
noncomputable def n_28_38 : e_Y := u_tab (o_newa 0 (e_I 2147483648) 40)
theorem t_28_38 : e_Sn 28 38 (e_un n_28_38) := u_tabT (s_newI (List.mem_of_getElem? (i := 215) (by decide +kernel)) hq_28 (by decide +kernel) rfl : e_Sn 28 38 (o_newa 0 (e_I 2147483648) 40))
noncomputable def n_28_35 : e_Y := u_getf 4 0 (u_old (o_getf (e_f1 4 0) 38) n_28_38) n_28_38
theorem t_28_35 : e_Sn 28 35 (e_un n_28_35) := u_getfT (s_getf (C := er_4) (T := et_4) (N := 5) (ref := "Plateroomprinter$Items") (index := 15) (ci := 4) (k := 0) hq_28 ho_28 ⟨rfl, by decide, ei_4, (List.mem_of_getElem? (i := 231) (by decide +kernel)), .inl rfl⟩ (by decide +kernel) rfl : e_Sn 28 35 (o_getf (e_f1 4 0) 38)) t_28_38
noncomputable def n_28_34 : e_Y := u_ld f_okA f_l0 n_28_35
theorem t_28_34 : e_Sn 28 34 (e_un n_28_34) := u_ldAT f_l0_eq (s_aload (i := .aload_n 0) (len := 1) hq_28 (by decide +kernel) rfl (.inr ⟨0, rfl, rfl, rfl⟩) : e_Sn 28 34 (o_load e_okR 0 35)) t_28_35
noncomputable def n_28_33 : e_Y := u_ld f_okA f_l0 n_28_34
theorem t_28_33 : e_Sn 28 33 (e_un n_28_33) := u_ldAT f_l0_eq (s_aload (i := .aload_n 0) (len := 1) hq_28 (by decide +kernel) rfl (.inr ⟨0, rfl, rfl, rfl⟩) : e_Sn 28 33 (o_load e_okR 0 34)) t_28_34
noncomputable def n_28_30 : e_Y := u_old (o_putf (e_f1 4 2) e_okR 33) n_28_33
theorem t_28_30 : e_Sn 28 30 (e_un n_28_30) := u_oldT (s_putf (ty0 := ey_4) (ok := e_okR) (C := er_4) (T := et_4) (N := 5) (ref := "Plateroomprinter$Items") (index := 25) (ci := 4) (k := 2) hq_28 ho_28 ⟨rfl, by decide, ei_4, (List.mem_of_getElem? (i := 233) (by decide +kernel)), .inl rfl⟩ eo_4 en_4 e_oksA (.inr ⟨rfl, rfl, rfl⟩) (by decide +kernel) rfl : e_Sn 28 30 (o_putf (e_f1 4 2) e_okR 33)) t_28_33 (e_cg_putf (e_f1 4 2) e_okR)
noncomputable def n_28_28 : e_Y := u_tab (o_newa 0 (e_I 2147483648) 30)
theorem t_28_28 : e_Sn 28 28 (e_un n_28_28) := u_tabT (s_newI (List.mem_of_getElem? (i := 215) (by decide +kernel)) hq_28 (by decide +kernel) rfl : e_Sn 28 28 (o_newa 0 (e_I 2147483648) 30))
noncomputable def n_28_25 : e_Y := u_getf 4 0 (u_old (o_getf (e_f1 4 0) 28) n_28_28) n_28_28
theorem t_28_25 : e_Sn 28 25 (e_un n_28_25) := u_getfT (s_getf (C := er_4) (T := et_4) (N := 5) (ref := "Plateroomprinter$Items") (index := 15) (ci := 4) (k := 0) hq_28 ho_28 ⟨rfl, by decide, ei_4, (List.mem_of_getElem? (i := 231) (by decide +kernel)), .inl rfl⟩ (by decide +kernel) rfl : e_Sn 28 25 (o_getf (e_f1 4 0) 28)) t_28_28
noncomputable def n_28_24 : e_Y := u_ld f_okA f_l0 n_28_25
theorem t_28_24 : e_Sn 28 24 (e_un n_28_24) := u_ldAT f_l0_eq (s_aload (i := .aload_n 0) (len := 1) hq_28 (by decide +kernel) rfl (.inr ⟨0, rfl, rfl, rfl⟩) : e_Sn 28 24 (o_load e_okR 0 25)) t_28_25
noncomputable def n_28_23 : e_Y := u_ld f_okA f_l0 n_28_24
theorem t_28_23 : e_Sn 28 23 (e_un n_28_23) := u_ldAT f_l0_eq (s_aload (i := .aload_n 0) (len := 1) hq_28 (by decide +kernel) rfl (.inr ⟨0, rfl, rfl, rfl⟩) : e_Sn 28 23 (o_load e_okR 0 24)) t_28_24
noncomputable def n_28_20 : e_Y := u_old (o_putf (e_f1 4 1) e_okR 23) n_28_23
theorem t_28_20 : e_Sn 28 20 (e_un n_28_20) := u_oldT (s_putf (ty0 := ey_4) (ok := e_okR) (C := er_4) (T := et_4) (N := 5) (ref := "Plateroomprinter$Items") (index := 21) (ci := 4) (k := 1) hq_28 ho_28 ⟨rfl, by decide, ei_4, (List.mem_of_getElem? (i := 232) (by decide +kernel)), .inl rfl⟩ eo_4 en_4 e_oksA (.inr ⟨rfl, rfl, rfl⟩) (by decide +kernel) rfl : e_Sn 28 20 (o_putf (e_f1 4 1) e_okR 23)) t_28_23 (e_cg_putf (e_f1 4 1) e_okR)
noncomputable def n_28_18 : e_Y := u_tab (o_newa 0 (e_I 2147483648) 20)
theorem t_28_18 : e_Sn 28 18 (e_un n_28_18) := u_tabT (s_newI (List.mem_of_getElem? (i := 215) (by decide +kernel)) hq_28 (by decide +kernel) rfl : e_Sn 28 18 (o_newa 0 (e_I 2147483648) 20))
noncomputable def n_28_15 : e_Y := u_getf 4 0 (u_old (o_getf (e_f1 4 0) 18) n_28_18) n_28_18
theorem t_28_15 : e_Sn 28 15 (e_un n_28_15) := u_getfT (s_getf (C := er_4) (T := et_4) (N := 5) (ref := "Plateroomprinter$Items") (index := 15) (ci := 4) (k := 0) hq_28 ho_28 ⟨rfl, by decide, ei_4, (List.mem_of_getElem? (i := 231) (by decide +kernel)), .inl rfl⟩ (by decide +kernel) rfl : e_Sn 28 15 (o_getf (e_f1 4 0) 18)) t_28_18
noncomputable def n_28_14 : e_Y := u_ld f_okA f_l0 n_28_15
theorem t_28_14 : e_Sn 28 14 (e_un n_28_14) := u_ldAT f_l0_eq (s_aload (i := .aload_n 0) (len := 1) hq_28 (by decide +kernel) rfl (.inr ⟨0, rfl, rfl, rfl⟩) : e_Sn 28 14 (o_load e_okR 0 15)) t_28_15
noncomputable def n_28_13 : e_Y := u_ld f_okA f_l0 n_28_14
theorem t_28_13 : e_Sn 28 13 (e_un n_28_13) := u_ldAT f_l0_eq (s_aload (i := .aload_n 0) (len := 1) hq_28 (by decide +kernel) rfl (.inr ⟨0, rfl, rfl, rfl⟩) : e_Sn 28 13 (o_load e_okR 0 14)) t_28_14
noncomputable def n_28_10 : e_Y := u_old (o_putf (e_f1 4 0) e_okI 13) n_28_13
theorem t_28_10 : e_Sn 28 10 (e_un n_28_10) := u_oldT (s_putf (ty0 := ey_4) (ok := e_okI) (C := er_4) (T := et_4) (N := 5) (ref := "Plateroomprinter$Items") (index := 15) (ci := 4) (k := 0) hq_28 ho_28 ⟨rfl, by decide, ei_4, (List.mem_of_getElem? (i := 231) (by decide +kernel)), .inl rfl⟩ eo_4 en_4 e_oksI (.inr ⟨rfl, rfl, rfl⟩) (by decide +kernel) rfl : e_Sn 28 10 (o_putf (e_f1 4 0) e_okI 13)) t_28_13 (e_cg_putf (e_f1 4 0) e_okI)
noncomputable def n_28_7 : e_Y := u_tab (o_mmax 10)
theorem t_28_7 : e_Sn 28 7 (e_un n_28_7) := u_tabT (s_mmax (index := 9) hq_28 ho_28 (List.mem_of_getElem? (i := 228) (by decide +kernel)) (List.mem_of_getElem? (i := 229) (by decide +kernel)) (List.mem_of_getElem? (i := 142) (by decide +kernel)) (List.mem_of_getElem? (i := 230) (by decide +kernel)) (by decide +kernel) rfl : e_Sn 28 7 (o_mmax 10))
noncomputable def n_28_6 : e_Y := u_ld f_okI f_l1 n_28_7
theorem t_28_6 : e_Sn 28 6 (e_un n_28_6) := u_ldIT f_l1_eq (s_iload (i := .iload_n 1) (len := 1) hq_28 (by decide +kernel) rfl (.inr ⟨1, rfl, rfl, rfl⟩) : e_Sn 28 6 (o_load e_okI 1 7)) t_28_7
noncomputable def n_28_5 : e_Y := u_push (.inl 2147483648) n_28_6
theorem t_28_5 : e_Sn 28 5 (e_un n_28_5) := u_pushT (s_iconst (n := (0)) hq_28 (by decide +kernel) rfl ⟨by decide +kernel, by decide +kernel⟩ : e_Sn 28 5 (o_push (.inl 2147483648) 6)) t_28_6
noncomputable def n_28_4 : e_Y := u_ld f_okA f_l0 n_28_5
theorem t_28_4 : e_Sn 28 4 (e_un n_28_4) := u_ldAT f_l0_eq (s_aload (i := .aload_n 0) (len := 1) hq_28 (by decide +kernel) rfl (.inr ⟨0, rfl, rfl, rfl⟩) : e_Sn 28 4 (o_load e_okR 0 5)) t_28_5
noncomputable def n_28_1 : e_Y := u_tab (o_oinit 4)
theorem t_28_1 : e_Sn 28 1 (e_un n_28_1) := u_tabT (s_oinit (idx := 3) hq_28 ho_28 (List.mem_of_getElem? (i := 227) (by decide +kernel)) (List.mem_of_getElem? (i := 190) (by decide +kernel)) (List.mem_of_getElem? (i := 191) (by decide +kernel)) (by decide +kernel) rfl : e_Sn 28 1 (o_oinit 4))
noncomputable def n_28_0 : e_Y := u_ld f_okA f_l0 n_28_1
theorem t_28_0 : e_Sn 28 0 (e_un n_28_0) := u_ldAT f_l0_eq (s_aload (i := .aload_n 0) (len := 1) hq_28 (by decide +kernel) rfl (.inr ⟨0, rfl, rfl, rfl⟩) : e_Sn 28 0 (o_load e_okR 0 1)) t_28_1
noncomputable def e_tb_28 : e_X := (e_br 20 (e_br 4 (e_lf 0 (e_un n_28_0)) (e_br 10 (e_lf 4 (e_un n_28_4)) (e_lf 10 (e_un n_28_10)))) (e_br 30 (e_lf 20 (e_un n_28_20)) (e_br 40 (e_lf 30 (e_un n_28_30)) (e_lf 40 (e_un n_28_40)))))
theorem e_tk_28 : e_Tb 28 e_tb_28 := (e_brT (e_brT (e_lfT t_28_0) (e_brT (e_lfT t_28_4) (e_lfT t_28_10))) (e_brT (e_lfT t_28_20) (e_brT (e_lfT t_28_30) (e_lfT t_28_40))))
theorem hq_36 : (e_ml[36]?).map (·.2.1) = some prog_6_method_1_code := rfl
theorem ho_36 : (e_ml[36]?).map (·.1.cls) = some "Plateroomprinter$Matrix" := rfl
theorem hr_36 : (e_ml[36]?).map (·.2.2.2) = some none := rfl
noncomputable def n_36_20 : e_Y := u_tab (o_retv)
theorem t_36_20 : e_Sn 36 20 (e_un n_36_20) := u_tabT (s_vret hq_36 hr_36 (by decide +kernel) : e_Sn 36 20 (o_retv))
noncomputable def n_36_17 : e_Y := u_old (o_putf (e_f1 5 1) e_okR 20) n_36_20
theorem t_36_17 : e_Sn 36 17 (e_un n_36_17) := u_oldT (s_putf (ty0 := ey_5) (ok := e_okR) (C := er_5) (T := et_5) (N := 5) (ref := "Plateroomprinter$Matrix") (index := 15) (ci := 5) (k := 1) hq_36 ho_36 ⟨rfl, by decide, ei_5, (List.mem_of_getElem? (i := 263) (by decide +kernel)), .inl rfl⟩ eo_5 en_5 e_oksA (.inr ⟨rfl, rfl, rfl⟩) (by decide +kernel) rfl : e_Sn 36 17 (o_putf (e_f1 5 1) e_okR 20)) t_36_20 (e_cg_putf (e_f1 5 1) e_okR)
noncomputable def n_36_15 : e_Y := u_tab (o_newa 2 (e_L 9223372036854775808) 17)
theorem t_36_15 : e_Sn 36 15 (e_un n_36_15) := u_tabT (s_newJ (List.mem_of_getElem? (i := 279) (by decide +kernel)) hq_36 (by decide +kernel) rfl : e_Sn 36 15 (o_newa 2 (e_L 9223372036854775808) 17))
noncomputable def n_36_13 : e_Y := u_push (.inl 2147483654) n_36_15
theorem t_36_13 : e_Sn 36 13 (e_un n_36_13) := u_pushT (s_bipush (n := (6)) hq_36 (by decide +kernel) rfl ⟨by decide +kernel, by decide +kernel⟩ : e_Sn 36 13 (o_push (.inl 2147483654) 15)) t_36_15
noncomputable def n_36_12 : e_Y := u_ld f_okA f_l0 n_36_13
theorem t_36_12 : e_Sn 36 12 (e_un n_36_12) := u_ldAT f_l0_eq (s_aload (i := .aload_n 0) (len := 1) hq_36 (by decide +kernel) rfl (.inr ⟨0, rfl, rfl, rfl⟩) : e_Sn 36 12 (o_load e_okR 0 13)) t_36_13
noncomputable def n_36_9 : e_Y := u_old (o_putf (e_f1 5 0) e_okR 12) n_36_12
theorem t_36_9 : e_Sn 36 9 (e_un n_36_9) := u_oldT (s_putf (ty0 := ey_5) (ok := e_okR) (C := er_5) (T := et_5) (N := 5) (ref := "Plateroomprinter$Matrix") (index := 9) (ci := 5) (k := 0) hq_36 ho_36 ⟨rfl, by decide, ei_5, (List.mem_of_getElem? (i := 261) (by decide +kernel)), .inl rfl⟩ eo_5 en_5 e_oksA (.inr ⟨rfl, rfl, rfl⟩) (by decide +kernel) rfl : e_Sn 36 9 (o_putf (e_f1 5 0) e_okR 12)) t_36_12 (e_cg_putf (e_f1 5 0) e_okR)
noncomputable def n_36_7 : e_Y := u_tab (o_newa 2 (e_L 9223372036854775808) 9)
theorem t_36_7 : e_Sn 36 7 (e_un n_36_7) := u_tabT (s_newJ (List.mem_of_getElem? (i := 279) (by decide +kernel)) hq_36 (by decide +kernel) rfl : e_Sn 36 7 (o_newa 2 (e_L 9223372036854775808) 9))
noncomputable def n_36_5 : e_Y := u_push (.inl 2147483654) n_36_7
theorem t_36_5 : e_Sn 36 5 (e_un n_36_5) := u_pushT (s_bipush (n := (6)) hq_36 (by decide +kernel) rfl ⟨by decide +kernel, by decide +kernel⟩ : e_Sn 36 5 (o_push (.inl 2147483654) 7)) t_36_7
noncomputable def n_36_4 : e_Y := u_ld f_okA f_l0 n_36_5
theorem t_36_4 : e_Sn 36 4 (e_un n_36_4) := u_ldAT f_l0_eq (s_aload (i := .aload_n 0) (len := 1) hq_36 (by decide +kernel) rfl (.inr ⟨0, rfl, rfl, rfl⟩) : e_Sn 36 4 (o_load e_okR 0 5)) t_36_5
noncomputable def n_36_1 : e_Y := u_tab (o_oinit 4)
theorem t_36_1 : e_Sn 36 1 (e_un n_36_1) := u_tabT (s_oinit (idx := 3) hq_36 ho_36 (List.mem_of_getElem? (i := 260) (by decide +kernel)) (List.mem_of_getElem? (i := 190) (by decide +kernel)) (List.mem_of_getElem? (i := 191) (by decide +kernel)) (by decide +kernel) rfl : e_Sn 36 1 (o_oinit 4))
noncomputable def n_36_0 : e_Y := u_ld f_okA f_l0 n_36_1
theorem t_36_0 : e_Sn 36 0 (e_un n_36_0) := u_ldAT f_l0_eq (s_aload (i := .aload_n 0) (len := 1) hq_36 (by decide +kernel) rfl (.inr ⟨0, rfl, rfl, rfl⟩) : e_Sn 36 0 (o_load e_okR 0 1)) t_36_1
noncomputable def e_tb_36 : e_X := (e_br 9 (e_br 4 (e_lf 0 (e_un n_36_0)) (e_lf 4 (e_un n_36_4))) (e_br 17 (e_lf 9 (e_un n_36_9)) (e_lf 17 (e_un n_36_17))))
theorem e_tk_36 : e_Tb 36 e_tb_36 := (e_brT (e_brT (e_lfT t_36_0) (e_lfT t_36_4)) (e_brT (e_lfT t_36_9) (e_lfT t_36_17)))
theorem hq_50 : (e_ml[50]?).map (·.2.1) = some prog_11_method_1_code := rfl
theorem ho_50 : (e_ml[50]?).map (·.1.cls) = some "Plateroomprinter$State" := rfl
theorem hr_50 : (e_ml[50]?).map (·.2.2.2) = some none := rfl
noncomputable def n_50_41 : e_Y := u_tab (o_retv)
theorem t_50_41 : e_Sn 50 41 (e_un n_50_41) := u_tabT (s_vret hq_50 hr_50 (by decide +kernel) : e_Sn 50 41 (o_retv))
noncomputable def n_50_38 : e_Y := u_old (o_putf (e_f1 10 3) e_okR 41) n_50_41
theorem t_50_38 : e_Sn 50 38 (e_un n_50_38) := u_oldT (s_putf (ty0 := ey_10) (ok := e_okR) (C := er_10) (T := et_10) (N := 11) (ref := "Plateroomprinter$State") (index := 29) (ci := 10) (k := 3) hq_50 ho_50 ⟨rfl, by decide, ei_10, (List.mem_of_getElem? (i := 325) (by decide +kernel)), .inl rfl⟩ eo_10 en_10 e_oksA (.inr ⟨rfl, rfl, rfl⟩) (by decide +kernel) rfl : e_Sn 50 38 (o_putf (e_f1 10 3) e_okR 41)) t_50_41 (e_cg_putf (e_f1 10 3) e_okR)
noncomputable def n_50_36 : e_Y := u_tab (o_newa 0 (e_I 2147483648) 38)
theorem t_50_36 : e_Sn 50 36 (e_un n_50_36) := u_tabT (s_newI (List.mem_of_getElem? (i := 215) (by decide +kernel)) hq_50 (by decide +kernel) rfl : e_Sn 50 36 (o_newa 0 (e_I 2147483648) 38))
noncomputable def n_50_35 : e_Y := u_push (.inl 2147483652) n_50_36
theorem t_50_35 : e_Sn 50 35 (e_un n_50_35) := u_pushT (s_iconst (n := (4)) hq_50 (by decide +kernel) rfl ⟨by decide +kernel, by decide +kernel⟩ : e_Sn 50 35 (o_push (.inl 2147483652) 36)) t_50_36
noncomputable def n_50_34 : e_Y := u_ld f_okA f_l0 n_50_35
theorem t_50_34 : e_Sn 50 34 (e_un n_50_34) := u_ldAT f_l0_eq (s_aload (i := .aload_n 0) (len := 1) hq_50 (by decide +kernel) rfl (.inr ⟨0, rfl, rfl, rfl⟩) : e_Sn 50 34 (o_load e_okR 0 35)) t_50_35
noncomputable def n_50_31 : e_Y := u_old (o_putf (e_f1 10 2) e_okR 34) n_50_34
theorem t_50_31 : e_Sn 50 31 (e_un n_50_31) := u_oldT (s_putf (ty0 := ey_10) (ok := e_okR) (C := er_10) (T := et_10) (N := 11) (ref := "Plateroomprinter$State") (index := 25) (ci := 10) (k := 2) hq_50 ho_50 ⟨rfl, by decide, ei_10, (List.mem_of_getElem? (i := 322) (by decide +kernel)), .inl rfl⟩ eo_10 en_10 e_oksA (.inr ⟨rfl, rfl, rfl⟩) (by decide +kernel) rfl : e_Sn 50 31 (o_putf (e_f1 10 2) e_okR 34)) t_50_34 (e_cg_putf (e_f1 10 2) e_okR)
noncomputable def n_50_29 : e_Y := u_tab (o_newa 0 (e_I 2147483648) 31)
theorem t_50_29 : e_Sn 50 29 (e_un n_50_29) := u_tabT (s_newI (List.mem_of_getElem? (i := 215) (by decide +kernel)) hq_50 (by decide +kernel) rfl : e_Sn 50 29 (o_newa 0 (e_I 2147483648) 31))
noncomputable def n_50_27 : e_Y := u_push (.inl 2147483680) n_50_29
theorem t_50_27 : e_Sn 50 27 (e_un n_50_27) := u_pushT (s_bipush (n := (32)) hq_50 (by decide +kernel) rfl ⟨by decide +kernel, by decide +kernel⟩ : e_Sn 50 27 (o_push (.inl 2147483680) 29)) t_50_29
noncomputable def n_50_26 : e_Y := u_ld f_okA f_l0 n_50_27
theorem t_50_26 : e_Sn 50 26 (e_un n_50_26) := u_ldAT f_l0_eq (s_aload (i := .aload_n 0) (len := 1) hq_50 (by decide +kernel) rfl (.inr ⟨0, rfl, rfl, rfl⟩) : e_Sn 50 26 (o_load e_okR 0 27)) t_50_27
noncomputable def n_50_23 : e_Y := u_old (o_putf (e_f1 10 1) e_okR 26) n_50_26
theorem t_50_23 : e_Sn 50 23 (e_un n_50_23) := u_oldT (s_putf (ty0 := ey_10) (ok := e_okR) (C := er_10) (T := et_10) (N := 11) (ref := "Plateroomprinter$State") (index := 21) (ci := 10) (k := 1) hq_50 ho_50 ⟨rfl, by decide, ei_10, (List.mem_of_getElem? (i := 319) (by decide +kernel)), .inl rfl⟩ eo_10 en_10 e_oksR (.inr ⟨rfl, rfl, rfl⟩) (by decide +kernel) rfl : e_Sn 50 23 (o_putf (e_f1 10 1) e_okR 26)) t_50_26 (e_cg_putf (e_f1 10 1) e_okR)
noncomputable def n_50_20 : e_Y := u_tab (o_callI 43 1 1 23)
theorem t_50_20 : e_Sn 50 20 (e_un n_50_20) := u_tabT (s_callIN (host := "Plateroomprinter") (index := 20) hq_50 ho_50 hy_43 hp_43 hc_43 hi_43 hd_43 (List.mem_of_getElem? (i := 282) (by decide +kernel)) rfl rfl hs_43 (by decide +kernel) rfl : e_Sn 50 20 (o_callI 43 1 1 23))
noncomputable def n_50_19 : e_Y := u_old (o_dup 20) n_50_20
theorem t_50_19 : e_Sn 50 19 (e_un n_50_19) := u_oldT (s_dup hq_50 (by decide +kernel) rfl : e_Sn 50 19 (o_dup 20)) t_50_20 e_cg_dup
noncomputable def n_50_16 : e_Y := u_tab (o_new 7 6 ef_7 19)
theorem t_50_16 : e_Sn 50 16 (e_un n_50_16) := u_tabT (s_new (index := 18) (ci := 7) (N := 6) (C := er_7) (T := et_7) (ty0 := ey_7) (fv := eg_7) hq_50 ho_50 rfl ei_7 eo_7 (List.mem_of_getElem? (i := 280) (by decide +kernel)) (List.mem_of_getElem? (i := 281) (by decide +kernel)) (List.mem_of_getElem? (i := 145) (by decide +kernel)) eh_7 rfl (e_newrel ek_7) (by decide +kernel) rfl : e_Sn 50 16 (o_new 7 6 ef_7 19))
noncomputable def n_50_15 : e_Y := u_ld f_okA f_l0 n_50_16
theorem t_50_15 : e_Sn 50 15 (e_un n_50_15) := u_ldAT f_l0_eq (s_aload (i := .aload_n 0) (len := 1) hq_50 (by decide +kernel) rfl (.inr ⟨0, rfl, rfl, rfl⟩) : e_Sn 50 15 (o_load e_okR 0 16)) t_50_16
noncomputable def n_50_12 : e_Y := u_old (o_putf (e_f1 10 0) e_okR 15) n_50_15
theorem t_50_12 : e_Sn 50 12 (e_un n_50_12) := u_oldT (s_putf (ty0 := ey_10) (ok := e_okR) (C := er_10) (T := et_10) (N := 11) (ref := "Plateroomprinter$State") (index := 12) (ci := 10) (k := 0) hq_50 ho_50 ⟨rfl, by decide, ei_10, (List.mem_of_getElem? (i := 316) (by decide +kernel)), .inl rfl⟩ eo_10 en_10 e_oksR (.inr ⟨rfl, rfl, rfl⟩) (by decide +kernel) rfl : e_Sn 50 12 (o_putf (e_f1 10 0) e_okR 15)) t_50_15 (e_cg_putf (e_f1 10 0) e_okR)
noncomputable def n_50_9 : e_Y := u_tab (o_callI 36 1 1 12)
theorem t_50_9 : e_Sn 50 9 (e_un n_50_9) := u_tabT (s_callIN (host := "Plateroomprinter") (index := 11) hq_50 ho_50 hy_36 hp_36 hc_36 hi_36 hd_36 (List.mem_of_getElem? (i := 257) (by decide +kernel)) rfl rfl hs_36 (by decide +kernel) rfl : e_Sn 50 9 (o_callI 36 1 1 12))
noncomputable def n_50_8 : e_Y := u_old (o_dup 9) n_50_9
theorem t_50_8 : e_Sn 50 8 (e_un n_50_8) := u_oldT (s_dup hq_50 (by decide +kernel) rfl : e_Sn 50 8 (o_dup 9)) t_50_9 e_cg_dup
noncomputable def n_50_5 : e_Y := u_tab (o_new 5 5 ef_5 8)
theorem t_50_5 : e_Sn 50 5 (e_un n_50_5) := u_tabT (s_new (index := 9) (ci := 5) (N := 5) (C := er_5) (T := et_5) (ty0 := ey_5) (fv := eg_5) hq_50 ho_50 rfl ei_5 eo_5 (List.mem_of_getElem? (i := 255) (by decide +kernel)) (List.mem_of_getElem? (i := 256) (by decide +kernel)) (List.mem_of_getElem? (i := 144) (by decide +kernel)) eh_5 rfl (e_newrel ek_5) (by decide +kernel) rfl : e_Sn 50 5 (o_new 5 5 ef_5 8))
noncomputable def n_50_4 : e_Y := u_ld f_okA f_l0 n_50_5
theorem t_50_4 : e_Sn 50 4 (e_un n_50_4) := u_ldAT f_l0_eq (s_aload (i := .aload_n 0) (len := 1) hq_50 (by decide +kernel) rfl (.inr ⟨0, rfl, rfl, rfl⟩) : e_Sn 50 4 (o_load e_okR 0 5)) t_50_5
noncomputable def n_50_1 : e_Y := u_tab (o_oinit 4)
theorem t_50_1 : e_Sn 50 1 (e_un n_50_1) := u_tabT (s_oinit (idx := 3) hq_50 ho_50 (List.mem_of_getElem? (i := 254) (by decide +kernel)) (List.mem_of_getElem? (i := 190) (by decide +kernel)) (List.mem_of_getElem? (i := 191) (by decide +kernel)) (by decide +kernel) rfl : e_Sn 50 1 (o_oinit 4))
noncomputable def n_50_0 : e_Y := u_ld f_okA f_l0 n_50_1
theorem t_50_0 : e_Sn 50 0 (e_un n_50_0) := u_ldAT f_l0_eq (s_aload (i := .aload_n 0) (len := 1) hq_50 (by decide +kernel) rfl (.inr ⟨0, rfl, rfl, rfl⟩) : e_Sn 50 0 (o_load e_okR 0 1)) t_50_1
noncomputable def e_tb_50 : e_X := (e_br 19 (e_br 8 (e_br 4 (e_lf 0 (e_un n_50_0)) (e_lf 4 (e_un n_50_4))) (e_br 12 (e_lf 8 (e_un n_50_8)) (e_lf 12 (e_un n_50_12)))) (e_br 31 (e_br 23 (e_lf 19 (e_un n_50_19)) (e_lf 23 (e_un n_50_23))) (e_br 38 (e_lf 31 (e_un n_50_31)) (e_lf 38 (e_un n_50_38)))))
theorem e_tk_50 : e_Tb 50 e_tb_50 := (e_brT (e_brT (e_brT (e_lfT t_50_0) (e_lfT t_50_4)) (e_brT (e_lfT t_50_8) (e_lfT t_50_12))) (e_brT (e_brT (e_lfT t_50_19) (e_lfT t_50_23)) (e_brT (e_lfT t_50_31) (e_lfT t_50_38))))
theorem hq_35 : (e_ml[35]?).map (·.2.1) = some prog_5_method_4_code := rfl
theorem ho_35 : (e_ml[35]?).map (·.1.cls) = some "Plateroomprinter$Items" := rfl
theorem hr_35 : (e_ml[35]?).map (·.2.2.2) = some none := rfl
noncomputable def n_35_34 : e_Y := u_tab (o_retv)
theorem t_35_34 : e_Sn 35 34 (e_un n_35_34) := u_tabT (s_vret hq_35 hr_35 (by decide +kernel) : e_Sn 35 34 (o_retv))
noncomputable def n_35_33 : e_Y := u_old (o_ast 0 e_okI 34) n_35_34
theorem t_35_33 : e_Sn 35 33 (e_un n_35_33) := u_oldT (s_iast hq_35 (by decide +kernel) rfl : e_Sn 35 33 (o_ast 0 e_okI 34)) t_35_34 (e_cg_ast 0 e_okI)
noncomputable def n_35_31 : e_Y := u_ld f_okI f_l4 n_35_33
theorem t_35_31 : e_Sn 35 31 (e_un n_35_31) := u_ldIT f_l4_eq (s_iload (i := .iload 4) (len := 2) hq_35 (by decide +kernel) rfl (.inl ⟨rfl, rfl⟩) : e_Sn 35 31 (o_load e_okI 4 33)) t_35_33
noncomputable def n_35_30 : e_Y := u_ld f_okI f_l1 n_35_31
theorem t_35_30 : e_Sn 35 30 (e_un n_35_30) := u_ldIT f_l1_eq (s_iload (i := .iload_n 1) (len := 1) hq_35 (by decide +kernel) rfl (.inr ⟨1, rfl, rfl, rfl⟩) : e_Sn 35 30 (o_load e_okI 1 31)) t_35_31
noncomputable def n_35_27 : e_Y := u_getf 4 3 (u_old (o_getf (e_f1 4 3) 30) n_35_30) n_35_30
theorem t_35_27 : e_Sn 35 27 (e_un n_35_27) := u_getfT (s_getf (C := er_4) (T := et_4) (N := 5) (ref := "Plateroomprinter$Items") (index := 28) (ci := 4) (k := 3) hq_35 ho_35 ⟨rfl, by decide, ei_4, (List.mem_of_getElem? (i := 234) (by decide +kernel)), .inl rfl⟩ (by decide +kernel) rfl : e_Sn 35 27 (o_getf (e_f1 4 3) 30)) t_35_30
noncomputable def n_35_26 : e_Y := u_ld f_okA f_l0 n_35_27
theorem t_35_26 : e_Sn 35 26 (e_un n_35_26) := u_ldAT f_l0_eq (s_aload (i := .aload_n 0) (len := 1) hq_35 (by decide +kernel) rfl (.inr ⟨0, rfl, rfl, rfl⟩) : e_Sn 35 26 (o_load e_okR 0 27)) t_35_27
noncomputable def n_35_25 : e_Y := u_old (o_ast 0 e_okI 26) n_35_26
theorem t_35_25 : e_Sn 35 25 (e_un n_35_25) := u_oldT (s_iast hq_35 (by decide +kernel) rfl : e_Sn 35 25 (o_ast 0 e_okI 26)) t_35_26 (e_cg_ast 0 e_okI)
noncomputable def n_35_24 : e_Y := u_ld f_okI f_l3 n_35_25
theorem t_35_24 : e_Sn 35 24 (e_un n_35_24) := u_ldIT f_l3_eq (s_iload (i := .iload_n 3) (len := 1) hq_35 (by decide +kernel) rfl (.inr ⟨3, rfl, rfl, rfl⟩) : e_Sn 35 24 (o_load e_okI 3 25)) t_35_25
noncomputable def n_35_23 : e_Y := u_ld f_okI f_l1 n_35_24
theorem t_35_23 : e_Sn 35 23 (e_un n_35_23) := u_ldIT f_l1_eq (s_iload (i := .iload_n 1) (len := 1) hq_35 (by decide +kernel) rfl (.inr ⟨1, rfl, rfl, rfl⟩) : e_Sn 35 23 (o_load e_okI 1 24)) t_35_24
noncomputable def n_35_20 : e_Y := u_getf 4 2 (u_old (o_getf (e_f1 4 2) 23) n_35_23) n_35_23
theorem t_35_20 : e_Sn 35 20 (e_un n_35_20) := u_getfT (s_getf (C := er_4) (T := et_4) (N := 5) (ref := "Plateroomprinter$Items") (index := 25) (ci := 4) (k := 2) hq_35 ho_35 ⟨rfl, by decide, ei_4, (List.mem_of_getElem? (i := 233) (by decide +kernel)), .inl rfl⟩ (by decide +kernel) rfl : e_Sn 35 20 (o_getf (e_f1 4 2) 23)) t_35_23
noncomputable def n_35_19 : e_Y := u_ld f_okA f_l0 n_35_20
theorem t_35_19 : e_Sn 35 19 (e_un n_35_19) := u_ldAT f_l0_eq (s_aload (i := .aload_n 0) (len := 1) hq_35 (by decide +kernel) rfl (.inr ⟨0, rfl, rfl, rfl⟩) : e_Sn 35 19 (o_load e_okR 0 20)) t_35_20
noncomputable def n_35_18 : e_Y := u_old (o_ast 0 e_okI 19) n_35_19
theorem t_35_18 : e_Sn 35 18 (e_un n_35_18) := u_oldT (s_iast hq_35 (by decide +kernel) rfl : e_Sn 35 18 (o_ast 0 e_okI 19)) t_35_19 (e_cg_ast 0 e_okI)
noncomputable def n_35_17 : e_Y := u_ld f_okI f_l2 n_35_18
theorem t_35_17 : e_Sn 35 17 (e_un n_35_17) := u_ldIT f_l2_eq (s_iload (i := .iload_n 2) (len := 1) hq_35 (by decide +kernel) rfl (.inr ⟨2, rfl, rfl, rfl⟩) : e_Sn 35 17 (o_load e_okI 2 18)) t_35_18
noncomputable def n_35_16 : e_Y := u_ld f_okI f_l1 n_35_17
theorem t_35_16 : e_Sn 35 16 (e_un n_35_16) := u_ldIT f_l1_eq (s_iload (i := .iload_n 1) (len := 1) hq_35 (by decide +kernel) rfl (.inr ⟨1, rfl, rfl, rfl⟩) : e_Sn 35 16 (o_load e_okI 1 17)) t_35_17
noncomputable def n_35_13 : e_Y := u_getf 4 1 (u_old (o_getf (e_f1 4 1) 16) n_35_16) n_35_16
theorem t_35_13 : e_Sn 35 13 (e_un n_35_13) := u_getfT (s_getf (C := er_4) (T := et_4) (N := 5) (ref := "Plateroomprinter$Items") (index := 21) (ci := 4) (k := 1) hq_35 ho_35 ⟨rfl, by decide, ei_4, (List.mem_of_getElem? (i := 232) (by decide +kernel)), .inl rfl⟩ (by decide +kernel) rfl : e_Sn 35 13 (o_getf (e_f1 4 1) 16)) t_35_16
noncomputable def n_35_12 : e_Y := u_ld f_okA f_l0 n_35_13
theorem t_35_12 : e_Sn 35 12 (e_un n_35_12) := u_ldAT f_l0_eq (s_aload (i := .aload_n 0) (len := 1) hq_35 (by decide +kernel) rfl (.inr ⟨0, rfl, rfl, rfl⟩) : e_Sn 35 12 (o_load e_okR 0 13)) t_35_13
noncomputable def n_35_9 : e_Y := u_jmp y_ge (u_old2 (o_clt 12 34) 12 n_35_12 n_35_34) n_35_12 n_35_34
theorem t_35_9 : e_Sn 35 9 (e_un n_35_9) := u_cltT rfl (s_cge (off := (25)) hq_35 (by decide +kernel) rfl rfl : e_Sn 35 9 (o_clt 12 34)) t_35_12 t_35_34
noncomputable def n_35_6 : e_Y := u_getf 4 0 (u_old (o_getf (e_f1 4 0) 9) n_35_9) n_35_9
theorem t_35_6 : e_Sn 35 6 (e_un n_35_6) := u_getfT (s_getf (C := er_4) (T := et_4) (N := 5) (ref := "Plateroomprinter$Items") (index := 15) (ci := 4) (k := 0) hq_35 ho_35 ⟨rfl, by decide, ei_4, (List.mem_of_getElem? (i := 231) (by decide +kernel)), .inl rfl⟩ (by decide +kernel) rfl : e_Sn 35 6 (o_getf (e_f1 4 0) 9)) t_35_9
noncomputable def n_35_5 : e_Y := u_ld f_okA f_l0 n_35_6
theorem t_35_5 : e_Sn 35 5 (e_un n_35_5) := u_ldAT f_l0_eq (s_aload (i := .aload_n 0) (len := 1) hq_35 (by decide +kernel) rfl (.inr ⟨0, rfl, rfl, rfl⟩) : e_Sn 35 5 (o_load e_okR 0 6)) t_35_6
noncomputable def n_35_4 : e_Y := u_ld f_okI f_l1 n_35_5
theorem t_35_4 : e_Sn 35 4 (e_un n_35_4) := u_ldIT f_l1_eq (s_iload (i := .iload_n 1) (len := 1) hq_35 (by decide +kernel) rfl (.inr ⟨1, rfl, rfl, rfl⟩) : e_Sn 35 4 (o_load e_okI 1 5)) t_35_5
noncomputable def n_35_1 : e_Y := u_if y_ge0 (u_old2 (o_iflt 34 4) 34 n_35_34 n_35_4) n_35_34 n_35_4
theorem t_35_1 : e_Sn 35 1 (e_un n_35_1) := u_ifltT rfl (s_iflt (off := (33)) hq_35 (by decide +kernel) rfl rfl : e_Sn 35 1 (o_iflt 34 4)) t_35_34 t_35_4
noncomputable def n_35_0 : e_Y := u_ld f_okI f_l1 n_35_1
theorem t_35_0 : e_Sn 35 0 (e_un n_35_0) := u_ldIT f_l1_eq (s_iload (i := .iload_n 1) (len := 1) hq_35 (by decide +kernel) rfl (.inr ⟨1, rfl, rfl, rfl⟩) : e_Sn 35 0 (o_load e_okI 1 1)) t_35_1
noncomputable def e_tb_35 : e_X := (e_lf 0 (e_un n_35_0))
theorem e_tk_35 : e_Tb 35 e_tb_35 := (e_lfT t_35_0)
theorem hq_99 : (e_ml[99]?).map (·.2.1) = some prog_37_method_69_code := rfl
theorem ho_99 : (e_ml[99]?).map (·.1.cls) = some "java/lang/Math" := rfl
theorem hr_99 : (e_ml[99]?).map (·.2.2.2) = some (some .int) := rfl
noncomputable def n_99_10 : e_Y := u_retI
theorem t_99_10 : e_Sn 99 10 (e_un n_99_10) := u_retIT (s_iret hq_99 hr_99 (by decide +kernel) : e_Sn 99 10 (o_ret e_okI))
noncomputable def n_99_6 : e_Y := n_99_10
theorem t_99_6 : e_Sn 99 6 (e_un n_99_6) := u_gotoT (s_goto (off := (4)) hq_99 (by decide +kernel) rfl : e_Sn 99 6 (o_goto 10)) t_99_10
noncomputable def n_99_5 : e_Y := u_ld f_okI f_l0 n_99_6
theorem t_99_5 : e_Sn 99 5 (e_un n_99_5) := u_ldIT f_l0_eq (s_iload (i := .iload_n 0) (len := 1) hq_99 (by decide +kernel) rfl (.inr ⟨0, rfl, rfl, rfl⟩) : e_Sn 99 5 (o_load e_okI 0 6)) t_99_6
noncomputable def n_99_2 : e_Y := u_jmp y_le (u_old2 (o_cgt 9 5) 9 (u_at 9) n_99_5) (u_at 9) n_99_5
theorem t_99_2 : e_Sn 99 2 (e_un n_99_2) := u_cgtT rfl (s_cgt (off := (7)) hq_99 (by decide +kernel) rfl rfl : e_Sn 99 2 (o_cgt 9 5)) u_atT t_99_5
noncomputable def n_99_1 : e_Y := u_ld f_okI f_l1 n_99_2
theorem t_99_1 : e_Sn 99 1 (e_un n_99_1) := u_ldIT f_l1_eq (s_iload (i := .iload_n 1) (len := 1) hq_99 (by decide +kernel) rfl (.inr ⟨1, rfl, rfl, rfl⟩) : e_Sn 99 1 (o_load e_okI 1 2)) t_99_2
noncomputable def n_99_0 : e_Y := u_ld f_okI f_l0 n_99_1
theorem t_99_0 : e_Sn 99 0 (e_un n_99_0) := u_ldIT f_l0_eq (s_iload (i := .iload_n 0) (len := 1) hq_99 (by decide +kernel) rfl (.inr ⟨0, rfl, rfl, rfl⟩) : e_Sn 99 0 (o_load e_okI 0 1)) t_99_1
noncomputable def e_tb_99 : e_X := (e_lf 0 (e_un n_99_0))
theorem e_tk_99 : e_Tb 99 e_tb_99 := (e_lfT t_99_0)
theorem hq_29 : (e_ml[29]?).map (·.2.1) = some prog_5_method_2_code := rfl
theorem ho_29 : (e_ml[29]?).map (·.1.cls) = some "Plateroomprinter$Items" := rfl
theorem hr_29 : (e_ml[29]?).map (·.2.2.2) = some none := rfl
noncomputable def n_29_40 : e_Y := u_tab (o_retv)
theorem t_29_40 : e_Sn 29 40 (e_un n_29_40) := u_tabT (s_vret hq_29 hr_29 (by decide +kernel) : e_Sn 29 40 (o_retv))
noncomputable def n_29_37 : e_Y := (u_at 18)
theorem t_29_37 : e_Sn 29 37 (e_un n_29_37) := u_gotoT (s_goto (off := (-19)) hq_29 (by decide +kernel) rfl : e_Sn 29 37 (o_goto 18)) u_atT
noncomputable def n_29_34 : e_Y := u_inc f_l2 f_s2 1 n_29_37
theorem t_29_34 : e_Sn 29 34 (e_un n_29_34) := u_incT f_l2_eq (fun _ _ _ => f_s2_eq) (s_iinc (zz := (1)) hq_29 (by decide +kernel) rfl (by decide +kernel) ⟨by decide, by decide⟩ : e_Sn 29 34 (o_iinc 2 1 37)) t_29_37
noncomputable def n_29_31 : e_Y := u_callV 4 35 5 24 5 n_35_0 n_29_34
theorem t_29_31 : e_Sn 29 31 (e_un n_29_31) := u_callVT rfl (s_callV (ci := 4) (C := er_4) (T := et_4) (N := 5) (index := 37) hq_29 ho_29 hy_35 hp_35 hc_35 hi_35 hd_35 (List.mem_of_getElem? (i := 427) (by decide +kernel)) hs_35 (List.mem_of_getElem? (i := 429) (by decide +kernel)) rfl (by decide +kernel) rfl : e_Sn 29 31 (o_callV (e_s1 4 35 5) 5 34)) t_35_0 t_29_34
noncomputable def n_29_30 : e_Y := u_push (.inl 2147483648) n_29_31
theorem t_29_30 : e_Sn 29 30 (e_un n_29_30) := u_pushT (s_iconst (n := (0)) hq_29 (by decide +kernel) rfl ⟨by decide +kernel, by decide +kernel⟩ : e_Sn 29 30 (o_push (.inl 2147483648) 31)) t_29_31
noncomputable def n_29_29 : e_Y := u_push (.inl 2147483648) n_29_30
theorem t_29_29 : e_Sn 29 29 (e_un n_29_29) := u_pushT (s_iconst (n := (0)) hq_29 (by decide +kernel) rfl ⟨by decide +kernel, by decide +kernel⟩ : e_Sn 29 29 (o_push (.inl 2147483648) 30)) t_29_30
noncomputable def n_29_28 : e_Y := u_push (.inl 2147483647) n_29_29
theorem t_29_28 : e_Sn 29 28 (e_un n_29_28) := u_pushT (s_iconst (n := (-1)) hq_29 (by decide +kernel) rfl ⟨by decide +kernel, by decide +kernel⟩ : e_Sn 29 28 (o_push (.inl 2147483647) 29)) t_29_29
noncomputable def n_29_27 : e_Y := u_ld f_okI f_l2 n_29_28
theorem t_29_27 : e_Sn 29 27 (e_un n_29_27) := u_ldIT f_l2_eq (s_iload (i := .iload_n 2) (len := 1) hq_29 (by decide +kernel) rfl (.inr ⟨2, rfl, rfl, rfl⟩) : e_Sn 29 27 (o_load e_okI 2 28)) t_29_28
noncomputable def n_29_26 : e_Y := u_ld f_okA f_l0 n_29_27
theorem t_29_26 : e_Sn 29 26 (e_un n_29_26) := u_ldAT f_l0_eq (s_aload (i := .aload_n 0) (len := 1) hq_29 (by decide +kernel) rfl (.inr ⟨0, rfl, rfl, rfl⟩) : e_Sn 29 26 (o_load e_okR 0 27)) t_29_27
noncomputable def n_29_23 : e_Y := u_jmp y_ge (u_old2 (o_clt 26 40) 26 n_29_26 n_29_40) n_29_26 n_29_40
theorem t_29_23 : e_Sn 29 23 (e_un n_29_23) := u_cltT rfl (s_cge (off := (17)) hq_29 (by decide +kernel) rfl rfl : e_Sn 29 23 (o_clt 26 40)) t_29_26 t_29_40
noncomputable def n_29_20 : e_Y := u_getf 4 0 (u_old (o_getf (e_f1 4 0) 23) n_29_23) n_29_23
theorem t_29_20 : e_Sn 29 20 (e_un n_29_20) := u_getfT (s_getf (C := er_4) (T := et_4) (N := 5) (ref := "Plateroomprinter$Items") (index := 15) (ci := 4) (k := 0) hq_29 ho_29 ⟨rfl, by decide, ei_4, (List.mem_of_getElem? (i := 231) (by decide +kernel)), .inl rfl⟩ (by decide +kernel) rfl : e_Sn 29 20 (o_getf (e_f1 4 0) 23)) t_29_23
noncomputable def n_29_19 : e_Y := u_ld f_okA f_l0 n_29_20
theorem t_29_19 : e_Sn 29 19 (e_un n_29_19) := u_ldAT f_l0_eq (s_aload (i := .aload_n 0) (len := 1) hq_29 (by decide +kernel) rfl (.inr ⟨0, rfl, rfl, rfl⟩) : e_Sn 29 19 (o_load e_okR 0 20)) t_29_20
noncomputable def n_29_18 : e_Y := u_ld f_okI f_l2 n_29_19
theorem t_29_18 : e_Sn 29 18 (e_un n_29_18) := u_ldIT f_l2_eq (s_iload (i := .iload_n 2) (len := 1) hq_29 (by decide +kernel) rfl (.inr ⟨2, rfl, rfl, rfl⟩) : e_Sn 29 18 (o_load e_okI 2 19)) t_29_19
noncomputable def n_29_17 : e_Y := u_st f_okI f_s2 n_29_18
theorem t_29_17 : e_Sn 29 17 (e_un n_29_17) := u_stIT (fun _ _ _ => f_s2_eq) (s_istore (i := .istore_n 2) (len := 1) hq_29 (by decide +kernel) rfl (.inr ⟨2, rfl, rfl, rfl⟩) : e_Sn 29 17 (o_store e_okI 2 18)) t_29_18
noncomputable def n_29_16 : e_Y := u_push (.inl 2147483648) n_29_17
theorem t_29_16 : e_Sn 29 16 (e_un n_29_16) := u_pushT (s_iconst (n := (0)) hq_29 (by decide +kernel) rfl ⟨by decide +kernel, by decide +kernel⟩ : e_Sn 29 16 (o_push (.inl 2147483648) 17)) t_29_17
noncomputable def n_29_13 : e_Y := u_old (o_putf (e_f1 4 4) e_okI 16) n_29_16
theorem t_29_13 : e_Sn 29 13 (e_un n_29_13) := u_oldT (s_putf (ty0 := ey_4) (ok := e_okI) (C := er_4) (T := et_4) (N := 5) (ref := "Plateroomprinter$Items") (index := 31) (ci := 4) (k := 4) hq_29 ho_29 ⟨rfl, by decide, ei_4, (List.mem_of_getElem? (i := 235) (by decide +kernel)), .inl rfl⟩ eo_4 en_4 e_oksI (.inl rfl) (by decide +kernel) rfl : e_Sn 29 13 (o_putf (e_f1 4 4) e_okI 16)) t_29_16 (e_cg_putf (e_f1 4 4) e_okI)
noncomputable def n_29_10 : e_Y := u_tab (o_mmax 13)
theorem t_29_10 : e_Sn 29 10 (e_un n_29_10) := u_tabT (s_mmax (index := 9) hq_29 ho_29 (List.mem_of_getElem? (i := 228) (by decide +kernel)) (List.mem_of_getElem? (i := 229) (by decide +kernel)) (List.mem_of_getElem? (i := 142) (by decide +kernel)) (List.mem_of_getElem? (i := 230) (by decide +kernel)) (by decide +kernel) rfl : e_Sn 29 10 (o_mmax 13))
noncomputable def n_29_7 : e_Y := u_tab (o_mmin 10)
theorem t_29_7 : e_Sn 29 7 (e_un n_29_7) := u_tabT (s_mmin (index := 34) hq_29 ho_29 (List.mem_of_getElem? (i := 424) (by decide +kernel)) (List.mem_of_getElem? (i := 425) (by decide +kernel)) (List.mem_of_getElem? (i := 142) (by decide +kernel)) (List.mem_of_getElem? (i := 426) (by decide +kernel)) (by decide +kernel) rfl : e_Sn 29 7 (o_mmin 10))
noncomputable def n_29_4 : e_Y := u_getf 4 0 (u_old (o_getf (e_f1 4 0) 7) n_29_7) n_29_7
theorem t_29_4 : e_Sn 29 4 (e_un n_29_4) := u_getfT (s_getf (C := er_4) (T := et_4) (N := 5) (ref := "Plateroomprinter$Items") (index := 15) (ci := 4) (k := 0) hq_29 ho_29 ⟨rfl, by decide, ei_4, (List.mem_of_getElem? (i := 231) (by decide +kernel)), .inl rfl⟩ (by decide +kernel) rfl : e_Sn 29 4 (o_getf (e_f1 4 0) 7)) t_29_7
noncomputable def n_29_3 : e_Y := u_ld f_okA f_l0 n_29_4
theorem t_29_3 : e_Sn 29 3 (e_un n_29_3) := u_ldAT f_l0_eq (s_aload (i := .aload_n 0) (len := 1) hq_29 (by decide +kernel) rfl (.inr ⟨0, rfl, rfl, rfl⟩) : e_Sn 29 3 (o_load e_okR 0 4)) t_29_4
noncomputable def n_29_2 : e_Y := u_ld f_okI f_l1 n_29_3
theorem t_29_2 : e_Sn 29 2 (e_un n_29_2) := u_ldIT f_l1_eq (s_iload (i := .iload_n 1) (len := 1) hq_29 (by decide +kernel) rfl (.inr ⟨1, rfl, rfl, rfl⟩) : e_Sn 29 2 (o_load e_okI 1 3)) t_29_3
noncomputable def n_29_1 : e_Y := u_push (.inl 2147483648) n_29_2
theorem t_29_1 : e_Sn 29 1 (e_un n_29_1) := u_pushT (s_iconst (n := (0)) hq_29 (by decide +kernel) rfl ⟨by decide +kernel, by decide +kernel⟩ : e_Sn 29 1 (o_push (.inl 2147483648) 2)) t_29_2
noncomputable def n_29_0 : e_Y := u_ld f_okA f_l0 n_29_1
theorem t_29_0 : e_Sn 29 0 (e_un n_29_0) := u_ldAT f_l0_eq (s_aload (i := .aload_n 0) (len := 1) hq_29 (by decide +kernel) rfl (.inr ⟨0, rfl, rfl, rfl⟩) : e_Sn 29 0 (o_load e_okR 0 1)) t_29_1
noncomputable def e_tb_29 : e_X := (e_br 13 (e_br 10 (e_lf 0 (e_un n_29_0)) (e_lf 10 (e_un n_29_10))) (e_br 18 (e_lf 13 (e_un n_29_13)) (e_lf 18 (e_un n_29_18))))
theorem e_tk_29 : e_Tb 29 e_tb_29 := (e_brT (e_brT (e_lfT t_29_0) (e_lfT t_29_10)) (e_brT (e_lfT t_29_13) (e_lfT t_29_18)))
theorem hq_44 : (e_ml[44]?).map (·.2.1) = some prog_8_method_2_code := rfl
theorem ho_44 : (e_ml[44]?).map (·.1.cls) = some "Plateroomprinter$Path" := rfl
theorem hr_44 : (e_ml[44]?).map (·.2.2.2) = some none := rfl
noncomputable def n_44_10 : e_Y := u_tab (o_retv)
theorem t_44_10 : e_Sn 44 10 (e_un n_44_10) := u_tabT (s_vret hq_44 hr_44 (by decide +kernel) : e_Sn 44 10 (o_retv))
noncomputable def n_44_7 : e_Y := u_old (o_putf (e_f1 7 5) e_okI 10) n_44_10
theorem t_44_7 : e_Sn 44 7 (e_un n_44_7) := u_oldT (s_putf (ty0 := ey_7) (ok := e_okI) (C := er_7) (T := et_7) (N := 6) (ref := "Plateroomprinter$Path") (index := 28) (ci := 7) (k := 5) hq_44 ho_44 ⟨rfl, by decide, ei_7, (List.mem_of_getElem? (i := 299) (by decide +kernel)), .inl rfl⟩ eo_7 en_7 e_oksI (.inl rfl) (by decide +kernel) rfl : e_Sn 44 7 (o_putf (e_f1 7 5) e_okI 10)) t_44_10 (e_cg_putf (e_f1 7 5) e_okI)
noncomputable def n_44_6 : e_Y := u_push (.inl 2147483648) n_44_7
theorem t_44_6 : e_Sn 44 6 (e_un n_44_6) := u_pushT (s_iconst (n := (0)) hq_44 (by decide +kernel) rfl ⟨by decide +kernel, by decide +kernel⟩ : e_Sn 44 6 (o_push (.inl 2147483648) 7)) t_44_7
noncomputable def n_44_5 : e_Y := u_ld f_okA f_l0 n_44_6
theorem t_44_5 : e_Sn 44 5 (e_un n_44_5) := u_ldAT f_l0_eq (s_aload (i := .aload_n 0) (len := 1) hq_44 (by decide +kernel) rfl (.inr ⟨0, rfl, rfl, rfl⟩) : e_Sn 44 5 (o_load e_okR 0 6)) t_44_6
noncomputable def n_44_2 : e_Y := u_old (o_putf (e_f1 7 4) e_okI 5) n_44_5
theorem t_44_2 : e_Sn 44 2 (e_un n_44_2) := u_oldT (s_putf (ty0 := ey_7) (ok := e_okI) (C := er_7) (T := et_7) (N := 6) (ref := "Plateroomprinter$Path") (index := 24) (ci := 7) (k := 4) hq_44 ho_44 ⟨rfl, by decide, ei_7, (List.mem_of_getElem? (i := 294) (by decide +kernel)), .inl rfl⟩ eo_7 en_7 e_oksI (.inl rfl) (by decide +kernel) rfl : e_Sn 44 2 (o_putf (e_f1 7 4) e_okI 5)) t_44_5 (e_cg_putf (e_f1 7 4) e_okI)
noncomputable def n_44_1 : e_Y := u_push (.inl 2147483648) n_44_2
theorem t_44_1 : e_Sn 44 1 (e_un n_44_1) := u_pushT (s_iconst (n := (0)) hq_44 (by decide +kernel) rfl ⟨by decide +kernel, by decide +kernel⟩ : e_Sn 44 1 (o_push (.inl 2147483648) 2)) t_44_2
noncomputable def n_44_0 : e_Y := u_ld f_okA f_l0 n_44_1
theorem t_44_0 : e_Sn 44 0 (e_un n_44_0) := u_ldAT f_l0_eq (s_aload (i := .aload_n 0) (len := 1) hq_44 (by decide +kernel) rfl (.inr ⟨0, rfl, rfl, rfl⟩) : e_Sn 44 0 (o_load e_okR 0 1)) t_44_1
noncomputable def e_tb_44 : e_X := (e_lf 0 (e_un n_44_0))
theorem e_tk_44 : e_Tb 44 e_tb_44 := (e_lfT t_44_0)
theorem hq_1 : (e_ml[1]?).map (·.2.1) = some prog_1_method_35_code := rfl
theorem ho_1 : (e_ml[1]?).map (·.1.cls) = some "Plateroomprinter" := rfl
theorem hr_1 : (e_ml[1]?).map (·.2.2.2) = some none := rfl
noncomputable def n_1_18 : e_Y := u_tab (o_retv)
theorem t_1_18 : e_Sn 1 18 (e_un n_1_18) := u_tabT (s_vret hq_1 hr_1 (by decide +kernel) : e_Sn 1 18 (o_retv))
noncomputable def n_1_15 : e_Y := (u_at 2)
theorem t_1_15 : e_Sn 1 15 (e_un n_1_15) := u_gotoT (s_goto (off := (-13)) hq_1 (by decide +kernel) rfl : e_Sn 1 15 (o_goto 2)) u_atT
noncomputable def n_1_12 : e_Y := u_inc f_l1 f_s1 1 n_1_15
theorem t_1_12 : e_Sn 1 12 (e_un n_1_12) := u_incT f_l1_eq (fun _ _ _ => f_s1_eq) (s_iinc (zz := (1)) hq_1 (by decide +kernel) rfl (by decide +kernel) ⟨by decide, by decide⟩ : e_Sn 1 12 (o_iinc 1 1 15)) t_1_15
noncomputable def n_1_11 : e_Y := u_old (o_ast 0 e_okI 12) n_1_12
theorem t_1_11 : e_Sn 1 11 (e_un n_1_11) := u_oldT (s_iast hq_1 (by decide +kernel) rfl : e_Sn 1 11 (o_ast 0 e_okI 12)) t_1_12 (e_cg_ast 0 e_okI)
noncomputable def n_1_10 : e_Y := u_push (.inl 2147483648) n_1_11
theorem t_1_10 : e_Sn 1 10 (e_un n_1_10) := u_pushT (s_iconst (n := (0)) hq_1 (by decide +kernel) rfl ⟨by decide +kernel, by decide +kernel⟩ : e_Sn 1 10 (o_push (.inl 2147483648) 11)) t_1_11
noncomputable def n_1_9 : e_Y := u_ld f_okI f_l1 n_1_10
theorem t_1_9 : e_Sn 1 9 (e_un n_1_9) := u_ldIT f_l1_eq (s_iload (i := .iload_n 1) (len := 1) hq_1 (by decide +kernel) rfl (.inr ⟨1, rfl, rfl, rfl⟩) : e_Sn 1 9 (o_load e_okI 1 10)) t_1_10
noncomputable def n_1_8 : e_Y := u_ld f_okA f_l0 n_1_9
theorem t_1_8 : e_Sn 1 8 (e_un n_1_8) := u_ldAT f_l0_eq (s_aload (i := .aload_n 0) (len := 1) hq_1 (by decide +kernel) rfl (.inr ⟨0, rfl, rfl, rfl⟩) : e_Sn 1 8 (o_load e_okR 0 9)) t_1_9
noncomputable def n_1_5 : e_Y := u_jmp y_ge (u_old2 (o_clt 8 18) 8 n_1_8 n_1_18) n_1_8 n_1_18
theorem t_1_5 : e_Sn 1 5 (e_un n_1_5) := u_cltT rfl (s_cge (off := (13)) hq_1 (by decide +kernel) rfl rfl : e_Sn 1 5 (o_clt 8 18)) t_1_8 t_1_18
noncomputable def n_1_4 : e_Y := u_old (o_alen e_fcs 5) n_1_5
theorem t_1_4 : e_Sn 1 4 (e_un n_1_4) := u_oldT (s_alen hq_1 (by decide +kernel) rfl : e_Sn 1 4 (o_alen e_fcs 5)) t_1_5 (e_cg_alen e_fcs)
noncomputable def n_1_3 : e_Y := u_ld f_okA f_l0 n_1_4
theorem t_1_3 : e_Sn 1 3 (e_un n_1_3) := u_ldAT f_l0_eq (s_aload (i := .aload_n 0) (len := 1) hq_1 (by decide +kernel) rfl (.inr ⟨0, rfl, rfl, rfl⟩) : e_Sn 1 3 (o_load e_okR 0 4)) t_1_4
noncomputable def n_1_2 : e_Y := u_ld f_okI f_l1 n_1_3
theorem t_1_2 : e_Sn 1 2 (e_un n_1_2) := u_ldIT f_l1_eq (s_iload (i := .iload_n 1) (len := 1) hq_1 (by decide +kernel) rfl (.inr ⟨1, rfl, rfl, rfl⟩) : e_Sn 1 2 (o_load e_okI 1 3)) t_1_3
noncomputable def n_1_1 : e_Y := u_st f_okI f_s1 n_1_2
theorem t_1_1 : e_Sn 1 1 (e_un n_1_1) := u_stIT (fun _ _ _ => f_s1_eq) (s_istore (i := .istore_n 1) (len := 1) hq_1 (by decide +kernel) rfl (.inr ⟨1, rfl, rfl, rfl⟩) : e_Sn 1 1 (o_store e_okI 1 2)) t_1_2
noncomputable def n_1_0 : e_Y := u_push (.inl 2147483648) n_1_1
theorem t_1_0 : e_Sn 1 0 (e_un n_1_0) := u_pushT (s_iconst (n := (0)) hq_1 (by decide +kernel) rfl ⟨by decide +kernel, by decide +kernel⟩ : e_Sn 1 0 (o_push (.inl 2147483648) 1)) t_1_1
noncomputable def e_tb_1 : e_X := (e_br 2 (e_lf 0 (e_un n_1_0)) (e_lf 2 (e_un n_1_2)))
theorem e_tk_1 : e_Tb 1 e_tb_1 := (e_brT (e_lfT t_1_0) (e_lfT t_1_2))
theorem hq_48 : (e_ml[48]?).map (·.2.1) = some prog_10_method_2_code := rfl
theorem ho_48 : (e_ml[48]?).map (·.1.cls) = some "Plateroomprinter$Sheet" := rfl
theorem hr_48 : (e_ml[48]?).map (·.2.2.2) = some none := rfl
noncomputable def n_48_7 : e_Y := u_tab (o_retv)
theorem t_48_7 : e_Sn 48 7 (e_un n_48_7) := u_tabT (s_vret hq_48 hr_48 (by decide +kernel) : e_Sn 48 7 (o_retv))
noncomputable def n_48_4 : e_Y := u_callS 1 2 21 1 n_1_0 n_48_7
theorem t_48_4 : e_Sn 48 4 (e_un n_48_4) := u_callST rfl (s_callSN (host := "Plateroomprinter") (index := 15) hq_48 ho_48 hy_1 hp_1 hc_1 hi_1 hd_1 (List.mem_of_getElem? (i := 456) (by decide +kernel)) hs_1 (by decide +kernel) rfl : e_Sn 48 4 (o_callS 1 2 1 7)) t_1_0 t_48_7
noncomputable def n_48_1 : e_Y := u_getf 9 0 (u_old (o_getf (e_f1 9 0) 4) n_48_4) n_48_4
theorem t_48_1 : e_Sn 48 1 (e_un n_48_1) := u_getfT (s_getf (C := er_9) (T := et_9) (N := 1) (ref := "Plateroomprinter$Sheet") (index := 9) (ci := 9) (k := 0) hq_48 ho_48 ⟨rfl, by decide, ei_9, (List.mem_of_getElem? (i := 381) (by decide +kernel)), .inl rfl⟩ (by decide +kernel) rfl : e_Sn 48 1 (o_getf (e_f1 9 0) 4)) t_48_4
noncomputable def n_48_0 : e_Y := u_ld f_okA f_l0 n_48_1
theorem t_48_0 : e_Sn 48 0 (e_un n_48_0) := u_ldAT f_l0_eq (s_aload (i := .aload_n 0) (len := 1) hq_48 (by decide +kernel) rfl (.inr ⟨0, rfl, rfl, rfl⟩) : e_Sn 48 0 (o_load e_okR 0 1)) t_48_1
noncomputable def e_tb_48 : e_X := (e_lf 0 (e_un n_48_0))
theorem e_tk_48 : e_Tb 48 e_tb_48 := (e_lfT t_48_0)
theorem hq_37 : (e_ml[37]?).map (·.2.1) = some prog_6_method_2_code := rfl
theorem ho_37 : (e_ml[37]?).map (·.1.cls) = some "Plateroomprinter$Matrix" := rfl
theorem hr_37 : (e_ml[37]?).map (·.2.2.2) = some none := rfl
noncomputable def n_37_41 : e_Y := u_tab (o_retv)
theorem t_37_41 : e_Sn 37 41 (e_un n_37_41) := u_tabT (s_vret hq_37 hr_37 (by decide +kernel) : e_Sn 37 41 (o_retv))
noncomputable def n_37_38 : e_Y := (u_at 2)
theorem t_37_38 : e_Sn 37 38 (e_un n_37_38) := u_gotoT (s_goto (off := (-36)) hq_37 (by decide +kernel) rfl : e_Sn 37 38 (o_goto 2)) u_atT
noncomputable def n_37_35 : e_Y := u_inc f_l1 f_s1 1 n_37_38
theorem t_37_35 : e_Sn 37 35 (e_un n_37_35) := u_incT f_l1_eq (fun _ _ _ => f_s1_eq) (s_iinc (zz := (1)) hq_37 (by decide +kernel) rfl (by decide +kernel) ⟨by decide, by decide⟩ : e_Sn 37 35 (o_iinc 1 1 38)) t_37_38
noncomputable def n_37_34 : e_Y := u_old (o_ast 2 e_okL 35) n_37_35
theorem t_37_34 : e_Sn 37 34 (e_un n_37_34) := u_oldT (s_last hq_37 (by decide +kernel) rfl : e_Sn 37 34 (o_ast 2 e_okL 35)) t_37_35 (e_cg_ast 2 e_okL)
noncomputable def n_37_33 : e_Y := u_push (e_L 9223372036854775809) n_37_34
theorem t_37_33 : e_Sn 37 33 (e_un n_37_33) := u_pushT (s_lconst (n := 1) hq_37 (by decide +kernel) rfl ⟨by decide +kernel, by decide +kernel⟩ : e_Sn 37 33 (o_push (e_L 9223372036854775809) 34)) t_37_34
noncomputable def n_37_32 : e_Y := u_ld f_okI f_l1 n_37_33
theorem t_37_32 : e_Sn 37 32 (e_un n_37_32) := u_ldIT f_l1_eq (s_iload (i := .iload_n 1) (len := 1) hq_37 (by decide +kernel) rfl (.inr ⟨1, rfl, rfl, rfl⟩) : e_Sn 37 32 (o_load e_okI 1 33)) t_37_33
noncomputable def n_37_29 : e_Y := u_getf 5 1 (u_old (o_getf (e_f1 5 1) 32) n_37_32) n_37_32
theorem t_37_29 : e_Sn 37 29 (e_un n_37_29) := u_getfT (s_getf (C := er_5) (T := et_5) (N := 5) (ref := "Plateroomprinter$Matrix") (index := 15) (ci := 5) (k := 1) hq_37 ho_37 ⟨rfl, by decide, ei_5, (List.mem_of_getElem? (i := 263) (by decide +kernel)), .inl rfl⟩ (by decide +kernel) rfl : e_Sn 37 29 (o_getf (e_f1 5 1) 32)) t_37_32
noncomputable def n_37_28 : e_Y := u_ld f_okA f_l0 n_37_29
theorem t_37_28 : e_Sn 37 28 (e_un n_37_28) := u_ldAT f_l0_eq (s_aload (i := .aload_n 0) (len := 1) hq_37 (by decide +kernel) rfl (.inr ⟨0, rfl, rfl, rfl⟩) : e_Sn 37 28 (o_load e_okR 0 29)) t_37_29
noncomputable def n_37_27 : e_Y := u_old (o_ast 2 e_okL 28) n_37_28
theorem t_37_27 : e_Sn 37 27 (e_un n_37_27) := u_oldT (s_last hq_37 (by decide +kernel) rfl : e_Sn 37 27 (o_ast 2 e_okL 28)) t_37_28 (e_cg_ast 2 e_okL)
noncomputable def n_37_26 : e_Y := u_push (e_L 9223372036854775808) n_37_27
theorem t_37_26 : e_Sn 37 26 (e_un n_37_26) := u_pushT (s_lconst (n := 0) hq_37 (by decide +kernel) rfl ⟨by decide +kernel, by decide +kernel⟩ : e_Sn 37 26 (o_push (e_L 9223372036854775808) 27)) t_37_27
noncomputable def n_37_23 : e_Y := n_37_27
theorem t_37_23 : e_Sn 37 23 (e_un n_37_23) := u_gotoT (s_goto (off := (4)) hq_37 (by decide +kernel) rfl : e_Sn 37 23 (o_goto 27)) t_37_27
noncomputable def n_37_22 : e_Y := u_push (e_L 9223372036854775809) n_37_23
theorem t_37_22 : e_Sn 37 22 (e_un n_37_22) := u_pushT (s_lconst (n := 1) hq_37 (by decide +kernel) rfl ⟨by decide +kernel, by decide +kernel⟩ : e_Sn 37 22 (o_push (e_L 9223372036854775809) 23)) t_37_23
noncomputable def n_37_19 : e_Y := u_jmp y_ne (u_old2 (o_ceq 22 26) 22 n_37_22 n_37_26) n_37_22 n_37_26
theorem t_37_19 : e_Sn 37 19 (e_un n_37_19) := u_ceqT rfl (s_cne (off := (7)) hq_37 (by decide +kernel) rfl rfl : e_Sn 37 19 (o_ceq 22 26)) t_37_22 t_37_26
noncomputable def n_37_18 : e_Y := u_push (.inl 2147483651) n_37_19
theorem t_37_18 : e_Sn 37 18 (e_un n_37_18) := u_pushT (s_iconst (n := (3)) hq_37 (by decide +kernel) rfl ⟨by decide +kernel, by decide +kernel⟩ : e_Sn 37 18 (o_push (.inl 2147483651) 19)) t_37_19
noncomputable def n_37_17 : e_Y := u_ld f_okI f_l1 n_37_18
theorem t_37_17 : e_Sn 37 17 (e_un n_37_17) := u_ldIT f_l1_eq (s_iload (i := .iload_n 1) (len := 1) hq_37 (by decide +kernel) rfl (.inr ⟨1, rfl, rfl, rfl⟩) : e_Sn 37 17 (o_load e_okI 1 18)) t_37_18
noncomputable def n_37_14 : e_Y := u_if y_ne0 (u_old2 (o_ifeq 22 17) 22 n_37_22 n_37_17) n_37_22 n_37_17
theorem t_37_14 : e_Sn 37 14 (e_un n_37_14) := u_ifeqT rfl (s_ifeq (off := (8)) hq_37 (by decide +kernel) rfl rfl : e_Sn 37 14 (o_ifeq 22 17)) t_37_22 t_37_17
noncomputable def n_37_13 : e_Y := u_ld f_okI f_l1 n_37_14
theorem t_37_13 : e_Sn 37 13 (e_un n_37_13) := u_ldIT f_l1_eq (s_iload (i := .iload_n 1) (len := 1) hq_37 (by decide +kernel) rfl (.inr ⟨1, rfl, rfl, rfl⟩) : e_Sn 37 13 (o_load e_okI 1 14)) t_37_14
noncomputable def n_37_12 : e_Y := u_ld f_okI f_l1 n_37_13
theorem t_37_12 : e_Sn 37 12 (e_un n_37_12) := u_ldIT f_l1_eq (s_iload (i := .iload_n 1) (len := 1) hq_37 (by decide +kernel) rfl (.inr ⟨1, rfl, rfl, rfl⟩) : e_Sn 37 12 (o_load e_okI 1 13)) t_37_13
noncomputable def n_37_9 : e_Y := u_getf 5 0 (u_old (o_getf (e_f1 5 0) 12) n_37_12) n_37_12
theorem t_37_9 : e_Sn 37 9 (e_un n_37_9) := u_getfT (s_getf (C := er_5) (T := et_5) (N := 5) (ref := "Plateroomprinter$Matrix") (index := 9) (ci := 5) (k := 0) hq_37 ho_37 ⟨rfl, by decide, ei_5, (List.mem_of_getElem? (i := 261) (by decide +kernel)), .inl rfl⟩ (by decide +kernel) rfl : e_Sn 37 9 (o_getf (e_f1 5 0) 12)) t_37_12
noncomputable def n_37_8 : e_Y := u_ld f_okA f_l0 n_37_9
theorem t_37_8 : e_Sn 37 8 (e_un n_37_8) := u_ldAT f_l0_eq (s_aload (i := .aload_n 0) (len := 1) hq_37 (by decide +kernel) rfl (.inr ⟨0, rfl, rfl, rfl⟩) : e_Sn 37 8 (o_load e_okR 0 9)) t_37_9
noncomputable def n_37_5 : e_Y := u_jmp y_ge (u_old2 (o_clt 8 41) 8 n_37_8 n_37_41) n_37_8 n_37_41
theorem t_37_5 : e_Sn 37 5 (e_un n_37_5) := u_cltT rfl (s_cge (off := (36)) hq_37 (by decide +kernel) rfl rfl : e_Sn 37 5 (o_clt 8 41)) t_37_8 t_37_41
noncomputable def n_37_3 : e_Y := u_push (.inl 2147483654) n_37_5
theorem t_37_3 : e_Sn 37 3 (e_un n_37_3) := u_pushT (s_bipush (n := (6)) hq_37 (by decide +kernel) rfl ⟨by decide +kernel, by decide +kernel⟩ : e_Sn 37 3 (o_push (.inl 2147483654) 5)) t_37_5
noncomputable def n_37_2 : e_Y := u_ld f_okI f_l1 n_37_3
theorem t_37_2 : e_Sn 37 2 (e_un n_37_2) := u_ldIT f_l1_eq (s_iload (i := .iload_n 1) (len := 1) hq_37 (by decide +kernel) rfl (.inr ⟨1, rfl, rfl, rfl⟩) : e_Sn 37 2 (o_load e_okI 1 3)) t_37_3
noncomputable def n_37_1 : e_Y := u_st f_okI f_s1 n_37_2
theorem t_37_1 : e_Sn 37 1 (e_un n_37_1) := u_stIT (fun _ _ _ => f_s1_eq) (s_istore (i := .istore_n 1) (len := 1) hq_37 (by decide +kernel) rfl (.inr ⟨1, rfl, rfl, rfl⟩) : e_Sn 37 1 (o_store e_okI 1 2)) t_37_2
noncomputable def n_37_0 : e_Y := u_push (.inl 2147483648) n_37_1
theorem t_37_0 : e_Sn 37 0 (e_un n_37_0) := u_pushT (s_iconst (n := (0)) hq_37 (by decide +kernel) rfl ⟨by decide +kernel, by decide +kernel⟩ : e_Sn 37 0 (o_push (.inl 2147483648) 1)) t_37_1
noncomputable def e_tb_37 : e_X := (e_br 2 (e_lf 0 (e_un n_37_0)) (e_lf 2 (e_un n_37_2)))
theorem e_tk_37 : e_Tb 37 e_tb_37 := (e_brT (e_lfT t_37_0) (e_lfT t_37_2))
theorem hq_53 : (e_ml[53]?).map (·.2.1) = some prog_11_method_5_code := rfl
theorem ho_53 : (e_ml[53]?).map (·.1.cls) = some "Plateroomprinter$State" := rfl
theorem hr_53 : (e_ml[53]?).map (·.2.2.2) = some none := rfl
noncomputable def n_53_22 : e_Y := u_tab (o_retv)
theorem t_53_22 : e_Sn 53 22 (e_un n_53_22) := u_tabT (s_vret hq_53 hr_53 (by decide +kernel) : e_Sn 53 22 (o_retv))
noncomputable def n_53_19 : e_Y := u_old (o_putf (e_f1 10 6) e_okI 22) n_53_22
theorem t_53_19 : e_Sn 53 19 (e_un n_53_19) := u_oldT (s_putf (ty0 := ey_10) (ok := e_okI) (C := er_10) (T := et_10) (N := 11) (ref := "Plateroomprinter$State") (index := 68) (ci := 10) (k := 6) hq_53 ho_53 ⟨rfl, by decide, ei_10, (List.mem_of_getElem? (i := 334) (by decide +kernel)), .inl rfl⟩ eo_10 en_10 e_oksI (.inl rfl) (by decide +kernel) rfl : e_Sn 53 19 (o_putf (e_f1 10 6) e_okI 22)) t_53_22 (e_cg_putf (e_f1 10 6) e_okI)
noncomputable def n_53_18 : e_Y := u_push (.inl 2147483648) n_53_19
theorem t_53_18 : e_Sn 53 18 (e_un n_53_18) := u_pushT (s_iconst (n := (0)) hq_53 (by decide +kernel) rfl ⟨by decide +kernel, by decide +kernel⟩ : e_Sn 53 18 (o_push (.inl 2147483648) 19)) t_53_19
noncomputable def n_53_17 : e_Y := u_ld f_okA f_l0 n_53_18
theorem t_53_17 : e_Sn 53 17 (e_un n_53_17) := u_ldAT f_l0_eq (s_aload (i := .aload_n 0) (len := 1) hq_53 (by decide +kernel) rfl (.inr ⟨0, rfl, rfl, rfl⟩) : e_Sn 53 17 (o_load e_okR 0 18)) t_53_18
noncomputable def n_53_14 : e_Y := u_old (o_putf (e_f1 10 5) e_okI 17) n_53_17
theorem t_53_14 : e_Sn 53 14 (e_un n_53_14) := u_oldT (s_putf (ty0 := ey_10) (ok := e_okI) (C := er_10) (T := et_10) (N := 11) (ref := "Plateroomprinter$State") (index := 65) (ci := 10) (k := 5) hq_53 ho_53 ⟨rfl, by decide, ei_10, (List.mem_of_getElem? (i := 331) (by decide +kernel)), .inl rfl⟩ eo_10 en_10 e_oksI (.inl rfl) (by decide +kernel) rfl : e_Sn 53 14 (o_putf (e_f1 10 5) e_okI 17)) t_53_17 (e_cg_putf (e_f1 10 5) e_okI)
noncomputable def n_53_13 : e_Y := u_push (.inl 2147483648) n_53_14
theorem t_53_13 : e_Sn 53 13 (e_un n_53_13) := u_pushT (s_iconst (n := (0)) hq_53 (by decide +kernel) rfl ⟨by decide +kernel, by decide +kernel⟩ : e_Sn 53 13 (o_push (.inl 2147483648) 14)) t_53_14
noncomputable def n_53_12 : e_Y := u_ld f_okA f_l0 n_53_13
theorem t_53_12 : e_Sn 53 12 (e_un n_53_12) := u_ldAT f_l0_eq (s_aload (i := .aload_n 0) (len := 1) hq_53 (by decide +kernel) rfl (.inr ⟨0, rfl, rfl, rfl⟩) : e_Sn 53 12 (o_load e_okR 0 13)) t_53_13
noncomputable def n_53_9 : e_Y := u_old (o_putf (e_f1 10 4) e_okZ 12) n_53_12
theorem t_53_9 : e_Sn 53 9 (e_un n_53_9) := u_oldT (s_putf (ty0 := ey_10) (ok := e_okZ) (C := er_10) (T := et_10) (N := 11) (ref := "Plateroomprinter$State") (index := 61) (ci := 10) (k := 4) hq_53 ho_53 ⟨rfl, by decide, ei_10, (List.mem_of_getElem? (i := 328) (by decide +kernel)), .inl rfl⟩ eo_10 en_10 e_oksZ (.inl rfl) (by decide +kernel) rfl : e_Sn 53 9 (o_putf (e_f1 10 4) e_okZ 12)) t_53_12 (e_cg_putf (e_f1 10 4) e_okZ)
noncomputable def n_53_8 : e_Y := u_push (.inl 2147483648) n_53_9
theorem t_53_8 : e_Sn 53 8 (e_un n_53_8) := u_pushT (s_iconst (n := (0)) hq_53 (by decide +kernel) rfl ⟨by decide +kernel, by decide +kernel⟩ : e_Sn 53 8 (o_push (.inl 2147483648) 9)) t_53_9
noncomputable def n_53_7 : e_Y := u_ld f_okA f_l0 n_53_8
theorem t_53_7 : e_Sn 53 7 (e_un n_53_7) := u_ldAT f_l0_eq (s_aload (i := .aload_n 0) (len := 1) hq_53 (by decide +kernel) rfl (.inr ⟨0, rfl, rfl, rfl⟩) : e_Sn 53 7 (o_load e_okR 0 8)) t_53_8
noncomputable def n_53_4 : e_Y := u_callV 7 44 1 20 1 n_44_0 n_53_7
theorem t_53_4 : e_Sn 53 4 (e_un n_53_4) := u_callVT rfl (s_callV (ci := 7) (C := er_7) (T := et_7) (N := 6) (index := 71) hq_53 ho_53 hy_44 hp_44 hc_44 hi_44 hd_44 (List.mem_of_getElem? (i := 443) (by decide +kernel)) hs_44 (List.mem_of_getElem? (i := 445) (by decide +kernel)) rfl (by decide +kernel) rfl : e_Sn 53 4 (o_callV (e_s1 7 44 1) 1 7)) t_44_0 t_53_7
noncomputable def n_53_1 : e_Y := u_getf 10 1 (u_old (o_getf (e_f1 10 1) 4) n_53_4) n_53_4
theorem t_53_1 : e_Sn 53 1 (e_un n_53_1) := u_getfT (s_getf (C := er_10) (T := et_10) (N := 11) (ref := "Plateroomprinter$State") (index := 21) (ci := 10) (k := 1) hq_53 ho_53 ⟨rfl, by decide, ei_10, (List.mem_of_getElem? (i := 319) (by decide +kernel)), .inl rfl⟩ (by decide +kernel) rfl : e_Sn 53 1 (o_getf (e_f1 10 1) 4)) t_53_4
noncomputable def n_53_0 : e_Y := u_ld f_okA f_l0 n_53_1
theorem t_53_0 : e_Sn 53 0 (e_un n_53_0) := u_ldAT f_l0_eq (s_aload (i := .aload_n 0) (len := 1) hq_53 (by decide +kernel) rfl (.inr ⟨0, rfl, rfl, rfl⟩) : e_Sn 53 0 (o_load e_okR 0 1)) t_53_1
noncomputable def e_tb_53 : e_X := (e_lf 0 (e_un n_53_0))
theorem e_tk_53 : e_Tb 53 e_tb_53 := (e_lfT t_53_0)
theorem hq_54 : (e_ml[54]?).map (·.2.1) = some prog_11_method_4_code := rfl
theorem ho_54 : (e_ml[54]?).map (·.1.cls) = some "Plateroomprinter$State" := rfl
theorem hr_54 : (e_ml[54]?).map (·.2.2.2) = some none := rfl
noncomputable def n_54_21 : e_Y := u_tab (o_retv)
theorem t_54_21 : e_Sn 54 21 (e_un n_54_21) := u_tabT (s_vret hq_54 hr_54 (by decide +kernel) : e_Sn 54 21 (o_retv))
noncomputable def n_54_18 : e_Y := (u_at 2)
theorem t_54_18 : e_Sn 54 18 (e_un n_54_18) := u_gotoT (s_goto (off := (-16)) hq_54 (by decide +kernel) rfl : e_Sn 54 18 (o_goto 2)) u_atT
noncomputable def n_54_15 : e_Y := u_inc f_l1 f_s1 1 n_54_18
theorem t_54_15 : e_Sn 54 15 (e_un n_54_15) := u_incT f_l1_eq (fun _ _ _ => f_s1_eq) (s_iinc (zz := (1)) hq_54 (by decide +kernel) rfl (by decide +kernel) ⟨by decide, by decide⟩ : e_Sn 54 15 (o_iinc 1 1 18)) t_54_18
noncomputable def n_54_14 : e_Y := u_old (o_ast 0 e_okI 15) n_54_15
theorem t_54_14 : e_Sn 54 14 (e_un n_54_14) := u_oldT (s_iast hq_54 (by decide +kernel) rfl : e_Sn 54 14 (o_ast 0 e_okI 15)) t_54_15 (e_cg_ast 0 e_okI)
noncomputable def n_54_13 : e_Y := u_push (.inl 2147483647) n_54_14
theorem t_54_13 : e_Sn 54 13 (e_un n_54_13) := u_pushT (s_iconst (n := (-1)) hq_54 (by decide +kernel) rfl ⟨by decide +kernel, by decide +kernel⟩ : e_Sn 54 13 (o_push (.inl 2147483647) 14)) t_54_14
noncomputable def n_54_12 : e_Y := u_ld f_okI f_l1 n_54_13
theorem t_54_12 : e_Sn 54 12 (e_un n_54_12) := u_ldIT f_l1_eq (s_iload (i := .iload_n 1) (len := 1) hq_54 (by decide +kernel) rfl (.inr ⟨1, rfl, rfl, rfl⟩) : e_Sn 54 12 (o_load e_okI 1 13)) t_54_13
noncomputable def n_54_9 : e_Y := u_getf 10 2 (u_old (o_getf (e_f1 10 2) 12) n_54_12) n_54_12
theorem t_54_9 : e_Sn 54 9 (e_un n_54_9) := u_getfT (s_getf (C := er_10) (T := et_10) (N := 11) (ref := "Plateroomprinter$State") (index := 25) (ci := 10) (k := 2) hq_54 ho_54 ⟨rfl, by decide, ei_10, (List.mem_of_getElem? (i := 322) (by decide +kernel)), .inl rfl⟩ (by decide +kernel) rfl : e_Sn 54 9 (o_getf (e_f1 10 2) 12)) t_54_12
noncomputable def n_54_8 : e_Y := u_ld f_okA f_l0 n_54_9
theorem t_54_8 : e_Sn 54 8 (e_un n_54_8) := u_ldAT f_l0_eq (s_aload (i := .aload_n 0) (len := 1) hq_54 (by decide +kernel) rfl (.inr ⟨0, rfl, rfl, rfl⟩) : e_Sn 54 8 (o_load e_okR 0 9)) t_54_9
noncomputable def n_54_5 : e_Y := u_jmp y_ge (u_old2 (o_clt 8 21) 8 n_54_8 n_54_21) n_54_8 n_54_21
theorem t_54_5 : e_Sn 54 5 (e_un n_54_5) := u_cltT rfl (s_cge (off := (16)) hq_54 (by decide +kernel) rfl rfl : e_Sn 54 5 (o_clt 8 21)) t_54_8 t_54_21
noncomputable def n_54_3 : e_Y := u_push (.inl 2147483680) n_54_5
theorem t_54_3 : e_Sn 54 3 (e_un n_54_3) := u_pushT (s_bipush (n := (32)) hq_54 (by decide +kernel) rfl ⟨by decide +kernel, by decide +kernel⟩ : e_Sn 54 3 (o_push (.inl 2147483680) 5)) t_54_5
noncomputable def n_54_2 : e_Y := u_ld f_okI f_l1 n_54_3
theorem t_54_2 : e_Sn 54 2 (e_un n_54_2) := u_ldIT f_l1_eq (s_iload (i := .iload_n 1) (len := 1) hq_54 (by decide +kernel) rfl (.inr ⟨1, rfl, rfl, rfl⟩) : e_Sn 54 2 (o_load e_okI 1 3)) t_54_3
noncomputable def n_54_1 : e_Y := u_st f_okI f_s1 n_54_2
theorem t_54_1 : e_Sn 54 1 (e_un n_54_1) := u_stIT (fun _ _ _ => f_s1_eq) (s_istore (i := .istore_n 1) (len := 1) hq_54 (by decide +kernel) rfl (.inr ⟨1, rfl, rfl, rfl⟩) : e_Sn 54 1 (o_store e_okI 1 2)) t_54_2
noncomputable def n_54_0 : e_Y := u_push (.inl 2147483648) n_54_1
theorem t_54_0 : e_Sn 54 0 (e_un n_54_0) := u_pushT (s_iconst (n := (0)) hq_54 (by decide +kernel) rfl ⟨by decide +kernel, by decide +kernel⟩ : e_Sn 54 0 (o_push (.inl 2147483648) 1)) t_54_1
noncomputable def e_tb_54 : e_X := (e_br 2 (e_lf 0 (e_un n_54_0)) (e_lf 2 (e_un n_54_2)))
theorem e_tk_54 : e_Tb 54 e_tb_54 := (e_brT (e_lfT t_54_0) (e_lfT t_54_2))
theorem hq_51 : (e_ml[51]?).map (·.2.1) = some prog_11_method_2_code := rfl
theorem ho_51 : (e_ml[51]?).map (·.1.cls) = some "Plateroomprinter$State" := rfl
theorem hr_51 : (e_ml[51]?).map (·.2.2.2) = some none := rfl
noncomputable def n_51_65 : e_Y := u_tab (o_retv)
theorem t_51_65 : e_Sn 51 65 (e_un n_51_65) := u_tabT (s_vret hq_51 hr_51 (by decide +kernel) : e_Sn 51 65 (o_retv))
noncomputable def n_51_62 : e_Y := u_old (o_putf (e_f1 10 10) e_okI 65) n_51_65
theorem t_51_62 : e_Sn 51 62 (e_un n_51_62) := u_oldT (s_putf (ty0 := ey_10) (ok := e_okI) (C := er_10) (T := et_10) (N := 11) (ref := "Plateroomprinter$State") (index := 51) (ci := 10) (k := 10) hq_51 ho_51 ⟨rfl, by decide, ei_10, (List.mem_of_getElem? (i := 346) (by decide +kernel)), .inl rfl⟩ eo_10 en_10 e_oksI (.inl rfl) (by decide +kernel) rfl : e_Sn 51 62 (o_putf (e_f1 10 10) e_okI 65)) t_51_65 (e_cg_putf (e_f1 10 10) e_okI)
noncomputable def n_51_61 : e_Y := u_push (.inl 2147483649) n_51_62
theorem t_51_61 : e_Sn 51 61 (e_un n_51_61) := u_pushT (s_iconst (n := (1)) hq_51 (by decide +kernel) rfl ⟨by decide +kernel, by decide +kernel⟩ : e_Sn 51 61 (o_push (.inl 2147483649) 62)) t_51_62
noncomputable def n_51_60 : e_Y := u_ld f_okA f_l0 n_51_61
theorem t_51_60 : e_Sn 51 60 (e_un n_51_60) := u_ldAT f_l0_eq (s_aload (i := .aload_n 0) (len := 1) hq_51 (by decide +kernel) rfl (.inr ⟨0, rfl, rfl, rfl⟩) : e_Sn 51 60 (o_load e_okR 0 61)) t_51_61
noncomputable def n_51_57 : e_Y := u_old (o_putf (e_f1 10 9) e_okI 60) n_51_60
theorem t_51_57 : e_Sn 51 57 (e_un n_51_57) := u_oldT (s_putf (ty0 := ey_10) (ok := e_okI) (C := er_10) (T := et_10) (N := 11) (ref := "Plateroomprinter$State") (index := 48) (ci := 10) (k := 9) hq_51 ho_51 ⟨rfl, by decide, ei_10, (List.mem_of_getElem? (i := 343) (by decide +kernel)), .inl rfl⟩ eo_10 en_10 e_oksI (.inl rfl) (by decide +kernel) rfl : e_Sn 51 57 (o_putf (e_f1 10 9) e_okI 60)) t_51_60 (e_cg_putf (e_f1 10 9) e_okI)
noncomputable def n_51_56 : e_Y := u_push (.inl 2147483648) n_51_57
theorem t_51_56 : e_Sn 51 56 (e_un n_51_56) := u_pushT (s_iconst (n := (0)) hq_51 (by decide +kernel) rfl ⟨by decide +kernel, by decide +kernel⟩ : e_Sn 51 56 (o_push (.inl 2147483648) 57)) t_51_57
noncomputable def n_51_55 : e_Y := u_ld f_okA f_l0 n_51_56
theorem t_51_55 : e_Sn 51 55 (e_un n_51_55) := u_ldAT f_l0_eq (s_aload (i := .aload_n 0) (len := 1) hq_51 (by decide +kernel) rfl (.inr ⟨0, rfl, rfl, rfl⟩) : e_Sn 51 55 (o_load e_okR 0 56)) t_51_56
noncomputable def n_51_52 : e_Y := u_old (o_putf (e_f1 10 8) e_okI 55) n_51_55
theorem t_51_52 : e_Sn 51 52 (e_un n_51_52) := u_oldT (s_putf (ty0 := ey_10) (ok := e_okI) (C := er_10) (T := et_10) (N := 11) (ref := "Plateroomprinter$State") (index := 45) (ci := 10) (k := 8) hq_51 ho_51 ⟨rfl, by decide, ei_10, (List.mem_of_getElem? (i := 340) (by decide +kernel)), .inl rfl⟩ eo_10 en_10 e_oksI (.inl rfl) (by decide +kernel) rfl : e_Sn 51 52 (o_putf (e_f1 10 8) e_okI 55)) t_51_55 (e_cg_putf (e_f1 10 8) e_okI)
noncomputable def n_51_51 : e_Y := u_push (.inl 2147483648) n_51_52
theorem t_51_51 : e_Sn 51 51 (e_un n_51_51) := u_pushT (s_iconst (n := (0)) hq_51 (by decide +kernel) rfl ⟨by decide +kernel, by decide +kernel⟩ : e_Sn 51 51 (o_push (.inl 2147483648) 52)) t_51_52
noncomputable def n_51_50 : e_Y := u_ld f_okA f_l0 n_51_51
theorem t_51_50 : e_Sn 51 50 (e_un n_51_50) := u_ldAT f_l0_eq (s_aload (i := .aload_n 0) (len := 1) hq_51 (by decide +kernel) rfl (.inr ⟨0, rfl, rfl, rfl⟩) : e_Sn 51 50 (o_load e_okR 0 51)) t_51_51
noncomputable def n_51_47 : e_Y := u_old (o_putf (e_f1 10 7) e_okI 50) n_51_50
theorem t_51_47 : e_Sn 51 47 (e_un n_51_47) := u_oldT (s_putf (ty0 := ey_10) (ok := e_okI) (C := er_10) (T := et_10) (N := 11) (ref := "Plateroomprinter$State") (index := 41) (ci := 10) (k := 7) hq_51 ho_51 ⟨rfl, by decide, ei_10, (List.mem_of_getElem? (i := 337) (by decide +kernel)), .inl rfl⟩ eo_10 en_10 e_oksI (.inl rfl) (by decide +kernel) rfl : e_Sn 51 47 (o_putf (e_f1 10 7) e_okI 50)) t_51_50 (e_cg_putf (e_f1 10 7) e_okI)
noncomputable def n_51_46 : e_Y := u_push (.inl 2147483649) n_51_47
theorem t_51_46 : e_Sn 51 46 (e_un n_51_46) := u_pushT (s_iconst (n := (1)) hq_51 (by decide +kernel) rfl ⟨by decide +kernel, by decide +kernel⟩ : e_Sn 51 46 (o_push (.inl 2147483649) 47)) t_51_47
noncomputable def n_51_45 : e_Y := u_ld f_okA f_l0 n_51_46
theorem t_51_45 : e_Sn 51 45 (e_un n_51_45) := u_ldAT f_l0_eq (s_aload (i := .aload_n 0) (len := 1) hq_51 (by decide +kernel) rfl (.inr ⟨0, rfl, rfl, rfl⟩) : e_Sn 51 45 (o_load e_okR 0 46)) t_51_46
noncomputable def n_51_42 : e_Y := (u_at 17)
theorem t_51_42 : e_Sn 51 42 (e_un n_51_42) := u_gotoT (s_goto (off := (-25)) hq_51 (by decide +kernel) rfl : e_Sn 51 42 (o_goto 17)) u_atT
noncomputable def n_51_39 : e_Y := u_inc f_l1 f_s1 1 n_51_42
theorem t_51_39 : e_Sn 51 39 (e_un n_51_39) := u_incT f_l1_eq (fun _ _ _ => f_s1_eq) (s_iinc (zz := (1)) hq_51 (by decide +kernel) rfl (by decide +kernel) ⟨by decide, by decide⟩ : e_Sn 51 39 (o_iinc 1 1 42)) t_51_42
noncomputable def n_51_38 : e_Y := u_old (o_ast 0 e_okI 39) n_51_39
theorem t_51_38 : e_Sn 51 38 (e_un n_51_38) := u_oldT (s_iast hq_51 (by decide +kernel) rfl : e_Sn 51 38 (o_ast 0 e_okI 39)) t_51_39 (e_cg_ast 0 e_okI)
noncomputable def n_51_37 : e_Y := u_push (.inl 2147483648) n_51_38
theorem t_51_37 : e_Sn 51 37 (e_un n_51_37) := u_pushT (s_iconst (n := (0)) hq_51 (by decide +kernel) rfl ⟨by decide +kernel, by decide +kernel⟩ : e_Sn 51 37 (o_push (.inl 2147483648) 38)) t_51_38
noncomputable def n_51_34 : e_Y := n_51_38
theorem t_51_34 : e_Sn 51 34 (e_un n_51_34) := u_gotoT (s_goto (off := (4)) hq_51 (by decide +kernel) rfl : e_Sn 51 34 (o_goto 38)) t_51_38
noncomputable def n_51_32 : e_Y := u_push (.inl 2147483664) n_51_34
theorem t_51_32 : e_Sn 51 32 (e_un n_51_32) := u_pushT (s_bipush (n := (16)) hq_51 (by decide +kernel) rfl ⟨by decide +kernel, by decide +kernel⟩ : e_Sn 51 32 (o_push (.inl 2147483664) 34)) t_51_34
noncomputable def n_51_29 : e_Y := u_jmp y_ne (u_old2 (o_ceq 32 37) 32 n_51_32 n_51_37) n_51_32 n_51_37
theorem t_51_29 : e_Sn 51 29 (e_un n_51_29) := u_ceqT rfl (s_cne (off := (8)) hq_51 (by decide +kernel) rfl rfl : e_Sn 51 29 (o_ceq 32 37)) t_51_32 t_51_37
noncomputable def n_51_28 : e_Y := u_push (.inl 2147483651) n_51_29
theorem t_51_28 : e_Sn 51 28 (e_un n_51_28) := u_pushT (s_iconst (n := (3)) hq_51 (by decide +kernel) rfl ⟨by decide +kernel, by decide +kernel⟩ : e_Sn 51 28 (o_push (.inl 2147483651) 29)) t_51_29
noncomputable def n_51_27 : e_Y := u_ld f_okI f_l1 n_51_28
theorem t_51_27 : e_Sn 51 27 (e_un n_51_27) := u_ldIT f_l1_eq (s_iload (i := .iload_n 1) (len := 1) hq_51 (by decide +kernel) rfl (.inr ⟨1, rfl, rfl, rfl⟩) : e_Sn 51 27 (o_load e_okI 1 28)) t_51_28
noncomputable def n_51_26 : e_Y := u_ld f_okI f_l1 n_51_27
theorem t_51_26 : e_Sn 51 26 (e_un n_51_26) := u_ldIT f_l1_eq (s_iload (i := .iload_n 1) (len := 1) hq_51 (by decide +kernel) rfl (.inr ⟨1, rfl, rfl, rfl⟩) : e_Sn 51 26 (o_load e_okI 1 27)) t_51_27
noncomputable def n_51_23 : e_Y := u_getf 10 3 (u_old (o_getf (e_f1 10 3) 26) n_51_26) n_51_26
theorem t_51_23 : e_Sn 51 23 (e_un n_51_23) := u_getfT (s_getf (C := er_10) (T := et_10) (N := 11) (ref := "Plateroomprinter$State") (index := 29) (ci := 10) (k := 3) hq_51 ho_51 ⟨rfl, by decide, ei_10, (List.mem_of_getElem? (i := 325) (by decide +kernel)), .inl rfl⟩ (by decide +kernel) rfl : e_Sn 51 23 (o_getf (e_f1 10 3) 26)) t_51_26
noncomputable def n_51_22 : e_Y := u_ld f_okA f_l0 n_51_23
theorem t_51_22 : e_Sn 51 22 (e_un n_51_22) := u_ldAT f_l0_eq (s_aload (i := .aload_n 0) (len := 1) hq_51 (by decide +kernel) rfl (.inr ⟨0, rfl, rfl, rfl⟩) : e_Sn 51 22 (o_load e_okR 0 23)) t_51_23
noncomputable def n_51_19 : e_Y := u_jmp y_ge (u_old2 (o_clt 22 45) 22 n_51_22 n_51_45) n_51_22 n_51_45
theorem t_51_19 : e_Sn 51 19 (e_un n_51_19) := u_cltT rfl (s_cge (off := (26)) hq_51 (by decide +kernel) rfl rfl : e_Sn 51 19 (o_clt 22 45)) t_51_22 t_51_45
noncomputable def n_51_18 : e_Y := u_push (.inl 2147483652) n_51_19
theorem t_51_18 : e_Sn 51 18 (e_un n_51_18) := u_pushT (s_iconst (n := (4)) hq_51 (by decide +kernel) rfl ⟨by decide +kernel, by decide +kernel⟩ : e_Sn 51 18 (o_push (.inl 2147483652) 19)) t_51_19
noncomputable def n_51_17 : e_Y := u_ld f_okI f_l1 n_51_18
theorem t_51_17 : e_Sn 51 17 (e_un n_51_17) := u_ldIT f_l1_eq (s_iload (i := .iload_n 1) (len := 1) hq_51 (by decide +kernel) rfl (.inr ⟨1, rfl, rfl, rfl⟩) : e_Sn 51 17 (o_load e_okI 1 18)) t_51_18
noncomputable def n_51_16 : e_Y := u_st f_okI f_s1 n_51_17
theorem t_51_16 : e_Sn 51 16 (e_un n_51_16) := u_stIT (fun _ _ _ => f_s1_eq) (s_istore (i := .istore_n 1) (len := 1) hq_51 (by decide +kernel) rfl (.inr ⟨1, rfl, rfl, rfl⟩) : e_Sn 51 16 (o_store e_okI 1 17)) t_51_17
noncomputable def n_51_15 : e_Y := u_push (.inl 2147483648) n_51_16
theorem t_51_15 : e_Sn 51 15 (e_un n_51_15) := u_pushT (s_iconst (n := (0)) hq_51 (by decide +kernel) rfl ⟨by decide +kernel, by decide +kernel⟩ : e_Sn 51 15 (o_push (.inl 2147483648) 16)) t_51_16
noncomputable def n_51_12 : e_Y := u_callV 10 54 2 21 1 n_54_0 n_51_15
theorem t_51_12 : e_Sn 51 12 (e_un n_51_12) := u_callVT rfl (s_callV (ci := 10) (C := er_10) (T := et_10) (N := 11) (index := 38) hq_51 ho_51 hy_54 hp_54 hc_54 hi_54 hd_54 (List.mem_of_getElem? (i := 447) (by decide +kernel)) hs_54 (List.mem_of_getElem? (i := 449) (by decide +kernel)) rfl (by decide +kernel) rfl : e_Sn 51 12 (o_callV (e_s1 10 54 2) 1 15)) t_54_0 t_51_15
noncomputable def n_51_11 : e_Y := u_ld f_okA f_l0 n_51_12
theorem t_51_11 : e_Sn 51 11 (e_un n_51_11) := u_ldAT f_l0_eq (s_aload (i := .aload_n 0) (len := 1) hq_51 (by decide +kernel) rfl (.inr ⟨0, rfl, rfl, rfl⟩) : e_Sn 51 11 (o_load e_okR 0 12)) t_51_12
noncomputable def n_51_8 : e_Y := u_callV 10 53 1 20 1 n_53_0 n_51_11
theorem t_51_8 : e_Sn 51 8 (e_un n_51_8) := u_callVT rfl (s_callV (ci := 10) (C := er_10) (T := et_10) (N := 11) (index := 35) hq_51 ho_51 hy_53 hp_53 hc_53 hi_53 hd_53 (List.mem_of_getElem? (i := 439) (by decide +kernel)) hs_53 (List.mem_of_getElem? (i := 441) (by decide +kernel)) rfl (by decide +kernel) rfl : e_Sn 51 8 (o_callV (e_s1 10 53 1) 1 11)) t_53_0 t_51_11
noncomputable def n_51_7 : e_Y := u_ld f_okA f_l0 n_51_8
theorem t_51_7 : e_Sn 51 7 (e_un n_51_7) := u_ldAT f_l0_eq (s_aload (i := .aload_n 0) (len := 1) hq_51 (by decide +kernel) rfl (.inr ⟨0, rfl, rfl, rfl⟩) : e_Sn 51 7 (o_load e_okR 0 8)) t_51_8
noncomputable def n_51_4 : e_Y := u_callV 5 37 2 21 1 n_37_0 n_51_7
theorem t_51_4 : e_Sn 51 4 (e_un n_51_4) := u_callVT rfl (s_callV (ci := 5) (C := er_5) (T := et_5) (N := 5) (index := 32) hq_51 ho_51 hy_37 hp_37 hc_37 hi_37 hd_37 (List.mem_of_getElem? (i := 435) (by decide +kernel)) hs_37 (List.mem_of_getElem? (i := 437) (by decide +kernel)) rfl (by decide +kernel) rfl : e_Sn 51 4 (o_callV (e_s1 5 37 2) 1 7)) t_37_0 t_51_7
noncomputable def n_51_1 : e_Y := u_getf 10 0 (u_old (o_getf (e_f1 10 0) 4) n_51_4) n_51_4
theorem t_51_1 : e_Sn 51 1 (e_un n_51_1) := u_getfT (s_getf (C := er_10) (T := et_10) (N := 11) (ref := "Plateroomprinter$State") (index := 12) (ci := 10) (k := 0) hq_51 ho_51 ⟨rfl, by decide, ei_10, (List.mem_of_getElem? (i := 316) (by decide +kernel)), .inl rfl⟩ (by decide +kernel) rfl : e_Sn 51 1 (o_getf (e_f1 10 0) 4)) t_51_4
noncomputable def n_51_0 : e_Y := u_ld f_okA f_l0 n_51_1
theorem t_51_0 : e_Sn 51 0 (e_un n_51_0) := u_ldAT f_l0_eq (s_aload (i := .aload_n 0) (len := 1) hq_51 (by decide +kernel) rfl (.inr ⟨0, rfl, rfl, rfl⟩) : e_Sn 51 0 (o_load e_okR 0 1)) t_51_1
noncomputable def e_tb_51 : e_X := (e_br 17 (e_lf 0 (e_un n_51_0)) (e_lf 17 (e_un n_51_17)))
theorem e_tk_51 : e_Tb 51 e_tb_51 := (e_brT (e_lfT t_51_0) (e_lfT t_51_17))
theorem hq_56 : (e_ml[56]?).map (·.2.1) = some prog_12_method_2_code := rfl
theorem ho_56 : (e_ml[56]?).map (·.1.cls) = some "Plateroomprinter$World" := rfl
theorem hr_56 : (e_ml[56]?).map (·.2.2.2) = some none := rfl
noncomputable def n_56_121 : e_Y := u_tab (o_retv)
theorem t_56_121 : e_Sn 56 121 (e_un n_56_121) := u_tabT (s_vret hq_56 hr_56 (by decide +kernel) : e_Sn 56 121 (o_retv))
noncomputable def n_56_118 : e_Y := u_old (o_putf (e_f1 11 14) e_okI 121) n_56_121
theorem t_56_118 : e_Sn 56 118 (e_un n_56_118) := u_oldT (s_putf (ty0 := ey_11) (ok := e_okI) (C := er_11) (T := et_11) (N := 15) (ref := "Plateroomprinter$World") (index := 89) (ci := 11) (k := 14) hq_56 ho_56 ⟨rfl, by decide, ei_11, (List.mem_of_getElem? (i := 500) (by decide +kernel)), .inl rfl⟩ eo_11 en_11 e_oksI (.inl rfl) (by decide +kernel) rfl : e_Sn 56 118 (o_putf (e_f1 11 14) e_okI 121)) t_56_121 (e_cg_putf (e_f1 11 14) e_okI)
noncomputable def n_56_117 : e_Y := u_push (.inl 2147483648) n_56_118
theorem t_56_117 : e_Sn 56 117 (e_un n_56_117) := u_pushT (s_iconst (n := (0)) hq_56 (by decide +kernel) rfl ⟨by decide +kernel, by decide +kernel⟩ : e_Sn 56 117 (o_push (.inl 2147483648) 118)) t_56_118
noncomputable def n_56_116 : e_Y := u_ld f_okA f_l0 n_56_117
theorem t_56_116 : e_Sn 56 116 (e_un n_56_116) := u_ldAT f_l0_eq (s_aload (i := .aload_n 0) (len := 1) hq_56 (by decide +kernel) rfl (.inr ⟨0, rfl, rfl, rfl⟩) : e_Sn 56 116 (o_load e_okR 0 117)) t_56_117
noncomputable def n_56_113 : e_Y := u_old (o_putf (e_f1 11 13) e_okI 116) n_56_116
theorem t_56_113 : e_Sn 56 113 (e_un n_56_113) := u_oldT (s_putf (ty0 := ey_11) (ok := e_okI) (C := er_11) (T := et_11) (N := 15) (ref := "Plateroomprinter$World") (index := 86) (ci := 11) (k := 13) hq_56 ho_56 ⟨rfl, by decide, ei_11, (List.mem_of_getElem? (i := 497) (by decide +kernel)), .inl rfl⟩ eo_11 en_11 e_oksI (.inl rfl) (by decide +kernel) rfl : e_Sn 56 113 (o_putf (e_f1 11 13) e_okI 116)) t_56_116 (e_cg_putf (e_f1 11 13) e_okI)
noncomputable def n_56_112 : e_Y := u_push (.inl 2147483648) n_56_113
theorem t_56_112 : e_Sn 56 112 (e_un n_56_112) := u_pushT (s_iconst (n := (0)) hq_56 (by decide +kernel) rfl ⟨by decide +kernel, by decide +kernel⟩ : e_Sn 56 112 (o_push (.inl 2147483648) 113)) t_56_113
noncomputable def n_56_111 : e_Y := u_ld f_okA f_l0 n_56_112
theorem t_56_111 : e_Sn 56 111 (e_un n_56_111) := u_ldAT f_l0_eq (s_aload (i := .aload_n 0) (len := 1) hq_56 (by decide +kernel) rfl (.inr ⟨0, rfl, rfl, rfl⟩) : e_Sn 56 111 (o_load e_okR 0 112)) t_56_112
noncomputable def n_56_108 : e_Y := u_old (o_putf (e_f1 11 12) e_okI 111) n_56_111
theorem t_56_108 : e_Sn 56 108 (e_un n_56_108) := u_oldT (s_putf (ty0 := ey_11) (ok := e_okI) (C := er_11) (T := et_11) (N := 15) (ref := "Plateroomprinter$World") (index := 83) (ci := 11) (k := 12) hq_56 ho_56 ⟨rfl, by decide, ei_11, (List.mem_of_getElem? (i := 494) (by decide +kernel)), .inl rfl⟩ eo_11 en_11 e_oksI (.inl rfl) (by decide +kernel) rfl : e_Sn 56 108 (o_putf (e_f1 11 12) e_okI 111)) t_56_111 (e_cg_putf (e_f1 11 12) e_okI)
noncomputable def n_56_107 : e_Y := u_push (.inl 2147483648) n_56_108
theorem t_56_107 : e_Sn 56 107 (e_un n_56_107) := u_pushT (s_iconst (n := (0)) hq_56 (by decide +kernel) rfl ⟨by decide +kernel, by decide +kernel⟩ : e_Sn 56 107 (o_push (.inl 2147483648) 108)) t_56_108
noncomputable def n_56_106 : e_Y := u_ld f_okA f_l0 n_56_107
theorem t_56_106 : e_Sn 56 106 (e_un n_56_106) := u_ldAT f_l0_eq (s_aload (i := .aload_n 0) (len := 1) hq_56 (by decide +kernel) rfl (.inr ⟨0, rfl, rfl, rfl⟩) : e_Sn 56 106 (o_load e_okR 0 107)) t_56_107
noncomputable def n_56_103 : e_Y := (u_at 87)
theorem t_56_103 : e_Sn 56 103 (e_un n_56_103) := u_gotoT (s_goto (off := (-16)) hq_56 (by decide +kernel) rfl : e_Sn 56 103 (o_goto 87)) u_atT
noncomputable def n_56_100 : e_Y := u_inc f_l1 f_s1 1 n_56_103
theorem t_56_100 : e_Sn 56 100 (e_un n_56_100) := u_incT f_l1_eq (fun _ _ _ => f_s1_eq) (s_iinc (zz := (1)) hq_56 (by decide +kernel) rfl (by decide +kernel) ⟨by decide, by decide⟩ : e_Sn 56 100 (o_iinc 1 1 103)) t_56_103
noncomputable def n_56_99 : e_Y := u_old (o_ast 0 e_okI 100) n_56_100
theorem t_56_99 : e_Sn 56 99 (e_un n_56_99) := u_oldT (s_iast hq_56 (by decide +kernel) rfl : e_Sn 56 99 (o_ast 0 e_okI 100)) t_56_100 (e_cg_ast 0 e_okI)
noncomputable def n_56_98 : e_Y := u_push (.inl 2147483648) n_56_99
theorem t_56_98 : e_Sn 56 98 (e_un n_56_98) := u_pushT (s_iconst (n := (0)) hq_56 (by decide +kernel) rfl ⟨by decide +kernel, by decide +kernel⟩ : e_Sn 56 98 (o_push (.inl 2147483648) 99)) t_56_99
noncomputable def n_56_97 : e_Y := u_ld f_okI f_l1 n_56_98
theorem t_56_97 : e_Sn 56 97 (e_un n_56_97) := u_ldIT f_l1_eq (s_iload (i := .iload_n 1) (len := 1) hq_56 (by decide +kernel) rfl (.inr ⟨1, rfl, rfl, rfl⟩) : e_Sn 56 97 (o_load e_okI 1 98)) t_56_98
noncomputable def n_56_94 : e_Y := u_getf 11 11 (u_old (o_getf (e_f1 11 11) 97) n_56_97) n_56_97
theorem t_56_94 : e_Sn 56 94 (e_un n_56_94) := u_getfT (s_getf (C := er_11) (T := et_11) (N := 15) (ref := "Plateroomprinter$World") (index := 61) (ci := 11) (k := 11) hq_56 ho_56 ⟨rfl, by decide, ei_11, (List.mem_of_getElem? (i := 491) (by decide +kernel)), .inl rfl⟩ (by decide +kernel) rfl : e_Sn 56 94 (o_getf (e_f1 11 11) 97)) t_56_97
noncomputable def n_56_93 : e_Y := u_ld f_okA f_l0 n_56_94
theorem t_56_93 : e_Sn 56 93 (e_un n_56_93) := u_ldAT f_l0_eq (s_aload (i := .aload_n 0) (len := 1) hq_56 (by decide +kernel) rfl (.inr ⟨0, rfl, rfl, rfl⟩) : e_Sn 56 93 (o_load e_okR 0 94)) t_56_94
noncomputable def n_56_90 : e_Y := u_jmp y_ge (u_old2 (o_clt 93 106) 93 n_56_93 n_56_106) n_56_93 n_56_106
theorem t_56_90 : e_Sn 56 90 (e_un n_56_90) := u_cltT rfl (s_cge (off := (16)) hq_56 (by decide +kernel) rfl rfl : e_Sn 56 90 (o_clt 93 106)) t_56_93 t_56_106
noncomputable def n_56_88 : e_Y := u_push (.inl 2147483701) n_56_90
theorem t_56_88 : e_Sn 56 88 (e_un n_56_88) := u_pushT (s_bipush (n := (53)) hq_56 (by decide +kernel) rfl ⟨by decide +kernel, by decide +kernel⟩ : e_Sn 56 88 (o_push (.inl 2147483701) 90)) t_56_90
noncomputable def n_56_87 : e_Y := u_ld f_okI f_l1 n_56_88
theorem t_56_87 : e_Sn 56 87 (e_un n_56_87) := u_ldIT f_l1_eq (s_iload (i := .iload_n 1) (len := 1) hq_56 (by decide +kernel) rfl (.inr ⟨1, rfl, rfl, rfl⟩) : e_Sn 56 87 (o_load e_okI 1 88)) t_56_88
noncomputable def n_56_86 : e_Y := u_st f_okI f_s1 n_56_87
theorem t_56_86 : e_Sn 56 86 (e_un n_56_86) := u_stIT (fun _ _ _ => f_s1_eq) (s_istore (i := .istore_n 1) (len := 1) hq_56 (by decide +kernel) rfl (.inr ⟨1, rfl, rfl, rfl⟩) : e_Sn 56 86 (o_store e_okI 1 87)) t_56_87
noncomputable def n_56_85 : e_Y := u_push (.inl 2147483648) n_56_86
theorem t_56_85 : e_Sn 56 85 (e_un n_56_85) := u_pushT (s_iconst (n := (0)) hq_56 (by decide +kernel) rfl ⟨by decide +kernel, by decide +kernel⟩ : e_Sn 56 85 (o_push (.inl 2147483648) 86)) t_56_86
noncomputable def n_56_82 : e_Y := u_old (o_putf (e_f1 11 10) e_okI 85) n_56_85
theorem t_56_82 : e_Sn 56 82 (e_un n_56_82) := u_oldT (s_putf (ty0 := ey_11) (ok := e_okI) (C := er_11) (T := et_11) (N := 15) (ref := "Plateroomprinter$World") (index := 80) (ci := 11) (k := 10) hq_56 ho_56 ⟨rfl, by decide, ei_11, (List.mem_of_getElem? (i := 488) (by decide +kernel)), .inl rfl⟩ eo_11 en_11 e_oksI (.inl rfl) (by decide +kernel) rfl : e_Sn 56 82 (o_putf (e_f1 11 10) e_okI 85)) t_56_85 (e_cg_putf (e_f1 11 10) e_okI)
noncomputable def n_56_81 : e_Y := u_push (.inl 2147483648) n_56_82
theorem t_56_81 : e_Sn 56 81 (e_un n_56_81) := u_pushT (s_iconst (n := (0)) hq_56 (by decide +kernel) rfl ⟨by decide +kernel, by decide +kernel⟩ : e_Sn 56 81 (o_push (.inl 2147483648) 82)) t_56_82
noncomputable def n_56_80 : e_Y := u_ld f_okA f_l0 n_56_81
theorem t_56_80 : e_Sn 56 80 (e_un n_56_80) := u_ldAT f_l0_eq (s_aload (i := .aload_n 0) (len := 1) hq_56 (by decide +kernel) rfl (.inr ⟨0, rfl, rfl, rfl⟩) : e_Sn 56 80 (o_load e_okR 0 81)) t_56_81
noncomputable def n_56_77 : e_Y := u_old (o_putf (e_f1 3 4) e_okI 80) n_56_80
theorem t_56_77 : e_Sn 56 77 (e_un n_56_77) := u_oldT (s_putf (ty0 := ey_3) (ok := e_okI) (C := er_3) (T := et_3) (N := 5) (ref := "Plateroomprinter$Figures") (index := 77) (ci := 3) (k := 4) hq_56 ho_56 ⟨rfl, by decide, ei_3, (List.mem_of_getElem? (i := 401) (by decide +kernel)), .inl rfl⟩ eo_3 en_3 e_oksI (.inl rfl) (by decide +kernel) rfl : e_Sn 56 77 (o_putf (e_f1 3 4) e_okI 80)) t_56_80 (e_cg_putf (e_f1 3 4) e_okI)
noncomputable def n_56_76 : e_Y := u_push (.inl 2147483648) n_56_77
theorem t_56_76 : e_Sn 56 76 (e_un n_56_76) := u_pushT (s_iconst (n := (0)) hq_56 (by decide +kernel) rfl ⟨by decide +kernel, by decide +kernel⟩ : e_Sn 56 76 (o_push (.inl 2147483648) 77)) t_56_77
noncomputable def n_56_73 : e_Y := u_getf 11 9 (u_old (o_getf (e_f1 11 9) 76) n_56_76) n_56_76
theorem t_56_73 : e_Sn 56 73 (e_un n_56_73) := u_getfT (s_getf (C := er_11) (T := et_11) (N := 15) (ref := "Plateroomprinter$World") (index := 57) (ci := 11) (k := 9) hq_56 ho_56 ⟨rfl, by decide, ei_11, (List.mem_of_getElem? (i := 485) (by decide +kernel)), .inl rfl⟩ (by decide +kernel) rfl : e_Sn 56 73 (o_getf (e_f1 11 9) 76)) t_56_76
noncomputable def n_56_72 : e_Y := u_ld f_okA f_l0 n_56_73
theorem t_56_72 : e_Sn 56 72 (e_un n_56_72) := u_ldAT f_l0_eq (s_aload (i := .aload_n 0) (len := 1) hq_56 (by decide +kernel) rfl (.inr ⟨0, rfl, rfl, rfl⟩) : e_Sn 56 72 (o_load e_okR 0 73)) t_56_73
noncomputable def n_56_69 : e_Y := u_callV 9 48 1 20 1 n_48_0 n_56_72
theorem t_56_69 : e_Sn 56 69 (e_un n_56_69) := u_callVT rfl (s_callV (ci := 9) (C := er_9) (T := et_9) (N := 1) (index := 76) hq_56 ho_56 hy_48 hp_48 hc_48 hi_48 hd_48 (List.mem_of_getElem? (i := 452) (by decide +kernel)) hs_48 (List.mem_of_getElem? (i := 454) (by decide +kernel)) rfl (by decide +kernel) rfl : e_Sn 56 69 (o_callV (e_s1 9 48 1) 1 72)) t_48_0 t_56_72
noncomputable def n_56_66 : e_Y := u_getf 11 8 (u_old (o_getf (e_f1 11 8) 69) n_56_69) n_56_69
theorem t_56_66 : e_Sn 56 66 (e_un n_56_66) := u_getfT (s_getf (C := er_11) (T := et_11) (N := 15) (ref := "Plateroomprinter$World") (index := 51) (ci := 11) (k := 8) hq_56 ho_56 ⟨rfl, by decide, ei_11, (List.mem_of_getElem? (i := 482) (by decide +kernel)), .inl rfl⟩ (by decide +kernel) rfl : e_Sn 56 66 (o_getf (e_f1 11 8) 69)) t_56_69
noncomputable def n_56_65 : e_Y := u_ld f_okA f_l0 n_56_66
theorem t_56_65 : e_Sn 56 65 (e_un n_56_65) := u_ldAT f_l0_eq (s_aload (i := .aload_n 0) (len := 1) hq_56 (by decide +kernel) rfl (.inr ⟨0, rfl, rfl, rfl⟩) : e_Sn 56 65 (o_load e_okR 0 66)) t_56_66
noncomputable def n_56_62 : e_Y := u_callV 9 48 1 20 1 n_48_0 n_56_65
theorem t_56_62 : e_Sn 56 62 (e_un n_56_62) := u_callVT rfl (s_callV (ci := 9) (C := er_9) (T := et_9) (N := 1) (index := 76) hq_56 ho_56 hy_48 hp_48 hc_48 hi_48 hd_48 (List.mem_of_getElem? (i := 452) (by decide +kernel)) hs_48 (List.mem_of_getElem? (i := 454) (by decide +kernel)) rfl (by decide +kernel) rfl : e_Sn 56 62 (o_callV (e_s1 9 48 1) 1 65)) t_48_0 t_56_65
noncomputable def n_56_59 : e_Y := u_getf 11 7 (u_old (o_getf (e_f1 11 7) 62) n_56_62) n_56_62
theorem t_56_59 : e_Sn 56 59 (e_un n_56_59) := u_getfT (s_getf (C := er_11) (T := et_11) (N := 15) (ref := "Plateroomprinter$World") (index := 47) (ci := 11) (k := 7) hq_56 ho_56 ⟨rfl, by decide, ei_11, (List.mem_of_getElem? (i := 479) (by decide +kernel)), .inl rfl⟩ (by decide +kernel) rfl : e_Sn 56 59 (o_getf (e_f1 11 7) 62)) t_56_62
noncomputable def n_56_58 : e_Y := u_ld f_okA f_l0 n_56_59
theorem t_56_58 : e_Sn 56 58 (e_un n_56_58) := u_ldAT f_l0_eq (s_aload (i := .aload_n 0) (len := 1) hq_56 (by decide +kernel) rfl (.inr ⟨0, rfl, rfl, rfl⟩) : e_Sn 56 58 (o_load e_okR 0 59)) t_56_59
noncomputable def n_56_55 : e_Y := (u_at 31)
theorem t_56_55 : e_Sn 56 55 (e_un n_56_55) := u_gotoT (s_goto (off := (-24)) hq_56 (by decide +kernel) rfl : e_Sn 56 55 (o_goto 31)) u_atT
noncomputable def n_56_52 : e_Y := u_inc f_l1 f_s1 1 n_56_55
theorem t_56_52 : e_Sn 56 52 (e_un n_56_52) := u_incT f_l1_eq (fun _ _ _ => f_s1_eq) (s_iinc (zz := (1)) hq_56 (by decide +kernel) rfl (by decide +kernel) ⟨by decide, by decide⟩ : e_Sn 56 52 (o_iinc 1 1 55)) t_56_55
noncomputable def n_56_51 : e_Y := u_old (o_ast 0 e_okI 52) n_56_52
theorem t_56_51 : e_Sn 56 51 (e_un n_56_51) := u_oldT (s_iast hq_56 (by decide +kernel) rfl : e_Sn 56 51 (o_ast 0 e_okI 52)) t_56_52 (e_cg_ast 0 e_okI)
noncomputable def n_56_50 : e_Y := u_push (.inl 2147483648) n_56_51
theorem t_56_50 : e_Sn 56 50 (e_un n_56_50) := u_pushT (s_iconst (n := (0)) hq_56 (by decide +kernel) rfl ⟨by decide +kernel, by decide +kernel⟩ : e_Sn 56 50 (o_push (.inl 2147483648) 51)) t_56_51
noncomputable def n_56_49 : e_Y := u_ld f_okI f_l1 n_56_50
theorem t_56_49 : e_Sn 56 49 (e_un n_56_49) := u_ldIT f_l1_eq (s_iload (i := .iload_n 1) (len := 1) hq_56 (by decide +kernel) rfl (.inr ⟨1, rfl, rfl, rfl⟩) : e_Sn 56 49 (o_load e_okI 1 50)) t_56_50
noncomputable def n_56_46 : e_Y := u_getf 11 6 (u_old (o_getf (e_f1 11 6) 49) n_56_49) n_56_49
theorem t_56_46 : e_Sn 56 46 (e_un n_56_46) := u_getfT (s_getf (C := er_11) (T := et_11) (N := 15) (ref := "Plateroomprinter$World") (index := 40) (ci := 11) (k := 6) hq_56 ho_56 ⟨rfl, by decide, ei_11, (List.mem_of_getElem? (i := 476) (by decide +kernel)), .inl rfl⟩ (by decide +kernel) rfl : e_Sn 56 46 (o_getf (e_f1 11 6) 49)) t_56_49
noncomputable def n_56_45 : e_Y := u_ld f_okA f_l0 n_56_46
theorem t_56_45 : e_Sn 56 45 (e_un n_56_45) := u_ldAT f_l0_eq (s_aload (i := .aload_n 0) (len := 1) hq_56 (by decide +kernel) rfl (.inr ⟨0, rfl, rfl, rfl⟩) : e_Sn 56 45 (o_load e_okR 0 46)) t_56_46
noncomputable def n_56_42 : e_Y := u_callV 7 44 1 20 1 n_44_0 n_56_45
theorem t_56_42 : e_Sn 56 42 (e_un n_56_42) := u_callVT rfl (s_callV (ci := 7) (C := er_7) (T := et_7) (N := 6) (index := 75) hq_56 ho_56 hy_44 hp_44 hc_44 hi_44 hd_44 (List.mem_of_getElem? (i := 451) (by decide +kernel)) hs_44 (List.mem_of_getElem? (i := 445) (by decide +kernel)) rfl (by decide +kernel) rfl : e_Sn 56 42 (o_callV (e_s1 7 44 1) 1 45)) t_44_0 t_56_45
noncomputable def n_56_41 : e_Y := u_ald 4 (u_old (o_aldO 4 42) n_56_42) n_56_42
theorem t_56_41 : e_Sn 56 41 (e_un n_56_41) := u_aldOT (s_aald (tc := 1) rfl hq_56 (by decide +kernel) rfl : e_Sn 56 41 (o_aldO 4 42)) t_56_42
noncomputable def n_56_40 : e_Y := u_ld f_okI f_l1 n_56_41
theorem t_56_40 : e_Sn 56 40 (e_un n_56_40) := u_ldIT f_l1_eq (s_iload (i := .iload_n 1) (len := 1) hq_56 (by decide +kernel) rfl (.inr ⟨1, rfl, rfl, rfl⟩) : e_Sn 56 40 (o_load e_okI 1 41)) t_56_41
noncomputable def n_56_37 : e_Y := u_getf 11 5 (u_old (o_getf (e_f1 11 5) 40) n_56_40) n_56_40
theorem t_56_37 : e_Sn 56 37 (e_un n_56_37) := u_getfT (s_getf (C := er_11) (T := et_11) (N := 15) (ref := "Plateroomprinter$World") (index := 36) (ci := 11) (k := 5) hq_56 ho_56 ⟨rfl, by decide, ei_11, (List.mem_of_getElem? (i := 473) (by decide +kernel)), .inl rfl⟩ (by decide +kernel) rfl : e_Sn 56 37 (o_getf (e_f1 11 5) 40)) t_56_40
noncomputable def n_56_36 : e_Y := u_ld f_okA f_l0 n_56_37
theorem t_56_36 : e_Sn 56 36 (e_un n_56_36) := u_ldAT f_l0_eq (s_aload (i := .aload_n 0) (len := 1) hq_56 (by decide +kernel) rfl (.inr ⟨0, rfl, rfl, rfl⟩) : e_Sn 56 36 (o_load e_okR 0 37)) t_56_37
noncomputable def n_56_33 : e_Y := u_jmp y_ge (u_old2 (o_clt 36 58) 36 n_56_36 n_56_58) n_56_36 n_56_58
theorem t_56_33 : e_Sn 56 33 (e_un n_56_33) := u_cltT rfl (s_cge (off := (25)) hq_56 (by decide +kernel) rfl rfl : e_Sn 56 33 (o_clt 36 58)) t_56_36 t_56_58
noncomputable def n_56_32 : e_Y := u_push (.inl 2147483653) n_56_33
theorem t_56_32 : e_Sn 56 32 (e_un n_56_32) := u_pushT (s_iconst (n := (5)) hq_56 (by decide +kernel) rfl ⟨by decide +kernel, by decide +kernel⟩ : e_Sn 56 32 (o_push (.inl 2147483653) 33)) t_56_33
noncomputable def n_56_31 : e_Y := u_ld f_okI f_l1 n_56_32
theorem t_56_31 : e_Sn 56 31 (e_un n_56_31) := u_ldIT f_l1_eq (s_iload (i := .iload_n 1) (len := 1) hq_56 (by decide +kernel) rfl (.inr ⟨1, rfl, rfl, rfl⟩) : e_Sn 56 31 (o_load e_okI 1 32)) t_56_32
noncomputable def n_56_30 : e_Y := u_st f_okI f_s1 n_56_31
theorem t_56_30 : e_Sn 56 30 (e_un n_56_30) := u_stIT (fun _ _ _ => f_s1_eq) (s_istore (i := .istore_n 1) (len := 1) hq_56 (by decide +kernel) rfl (.inr ⟨1, rfl, rfl, rfl⟩) : e_Sn 56 30 (o_store e_okI 1 31)) t_56_31
noncomputable def n_56_29 : e_Y := u_push (.inl 2147483648) n_56_30
theorem t_56_29 : e_Sn 56 29 (e_un n_56_29) := u_pushT (s_iconst (n := (0)) hq_56 (by decide +kernel) rfl ⟨by decide +kernel, by decide +kernel⟩ : e_Sn 56 29 (o_push (.inl 2147483648) 30)) t_56_30
noncomputable def n_56_26 : e_Y := u_old (o_putf (e_f1 11 4) e_okI 29) n_56_29
theorem t_56_26 : e_Sn 56 26 (e_un n_56_26) := u_oldT (s_putf (ty0 := ey_11) (ok := e_okI) (C := er_11) (T := et_11) (N := 15) (ref := "Plateroomprinter$World") (index := 71) (ci := 11) (k := 4) hq_56 ho_56 ⟨rfl, by decide, ei_11, (List.mem_of_getElem? (i := 470) (by decide +kernel)), .inl rfl⟩ eo_11 en_11 e_oksI (.inl rfl) (by decide +kernel) rfl : e_Sn 56 26 (o_putf (e_f1 11 4) e_okI 29)) t_56_29 (e_cg_putf (e_f1 11 4) e_okI)
noncomputable def n_56_25 : e_Y := u_push (.inl 2147483648) n_56_26
theorem t_56_25 : e_Sn 56 25 (e_un n_56_25) := u_pushT (s_iconst (n := (0)) hq_56 (by decide +kernel) rfl ⟨by decide +kernel, by decide +kernel⟩ : e_Sn 56 25 (o_push (.inl 2147483648) 26)) t_56_26
noncomputable def n_56_24 : e_Y := u_ld f_okA f_l0 n_56_25
theorem t_56_24 : e_Sn 56 24 (e_un n_56_24) := u_ldAT f_l0_eq (s_aload (i := .aload_n 0) (len := 1) hq_56 (by decide +kernel) rfl (.inr ⟨0, rfl, rfl, rfl⟩) : e_Sn 56 24 (o_load e_okR 0 25)) t_56_25
noncomputable def n_56_21 : e_Y := u_callV 10 51 2 21 1 n_51_0 n_56_24
theorem t_56_21 : e_Sn 56 21 (e_un n_56_21) := u_callVT rfl (s_callV (ci := 10) (C := er_10) (T := et_10) (N := 11) (index := 70) hq_56 ho_56 hy_51 hp_51 hc_51 hi_51 hd_51 (List.mem_of_getElem? (i := 431) (by decide +kernel)) hs_51 (List.mem_of_getElem? (i := 433) (by decide +kernel)) rfl (by decide +kernel) rfl : e_Sn 56 21 (o_callV (e_s1 10 51 2) 1 24)) t_51_0 t_56_24
noncomputable def n_56_18 : e_Y := u_getf 11 2 (u_old (o_getf (e_f1 11 2) 21) n_56_21) n_56_21
theorem t_56_18 : e_Sn 56 18 (e_un n_56_18) := u_getfT (s_getf (C := er_11) (T := et_11) (N := 15) (ref := "Plateroomprinter$World") (index := 26) (ci := 11) (k := 2) hq_56 ho_56 ⟨rfl, by decide, ei_11, (List.mem_of_getElem? (i := 465) (by decide +kernel)), .inl rfl⟩ (by decide +kernel) rfl : e_Sn 56 18 (o_getf (e_f1 11 2) 21)) t_56_21
noncomputable def n_56_17 : e_Y := u_ld f_okA f_l0 n_56_18
theorem t_56_17 : e_Sn 56 17 (e_un n_56_17) := u_ldAT f_l0_eq (s_aload (i := .aload_n 0) (len := 1) hq_56 (by decide +kernel) rfl (.inr ⟨0, rfl, rfl, rfl⟩) : e_Sn 56 17 (o_load e_okR 0 18)) t_56_18
noncomputable def n_56_14 : e_Y := u_callV 4 29 3 22 2 n_29_0 n_56_17
theorem t_56_14 : e_Sn 56 14 (e_un n_56_14) := u_callVT rfl (s_callV (ci := 4) (C := er_4) (T := et_4) (N := 5) (index := 68) hq_56 ho_56 hy_29 hp_29 hc_29 hi_29 hd_29 (List.mem_of_getElem? (i := 420) (by decide +kernel)) hs_29 (List.mem_of_getElem? (i := 422) (by decide +kernel)) rfl (by decide +kernel) rfl : e_Sn 56 14 (o_callV (e_s1 4 29 3) 2 17)) t_29_0 t_56_17
noncomputable def n_56_12 : e_Y := u_push (.inl 2147483658) n_56_14
theorem t_56_12 : e_Sn 56 12 (e_un n_56_12) := u_pushT (s_bipush (n := (10)) hq_56 (by decide +kernel) rfl ⟨by decide +kernel, by decide +kernel⟩ : e_Sn 56 12 (o_push (.inl 2147483658) 14)) t_56_14
noncomputable def n_56_9 : e_Y := u_getf 11 1 (u_old (o_getf (e_f1 11 1) 12) n_56_12) n_56_12
theorem t_56_9 : e_Sn 56 9 (e_un n_56_9) := u_getfT (s_getf (C := er_11) (T := et_11) (N := 15) (ref := "Plateroomprinter$World") (index := 20) (ci := 11) (k := 1) hq_56 ho_56 ⟨rfl, by decide, ei_11, (List.mem_of_getElem? (i := 462) (by decide +kernel)), .inl rfl⟩ (by decide +kernel) rfl : e_Sn 56 9 (o_getf (e_f1 11 1) 12)) t_56_12
noncomputable def n_56_8 : e_Y := u_ld f_okA f_l0 n_56_9
theorem t_56_8 : e_Sn 56 8 (e_un n_56_8) := u_ldAT f_l0_eq (s_aload (i := .aload_n 0) (len := 1) hq_56 (by decide +kernel) rfl (.inr ⟨0, rfl, rfl, rfl⟩) : e_Sn 56 8 (o_load e_okR 0 9)) t_56_9
noncomputable def n_56_5 : e_Y := u_callV 4 29 3 22 2 n_29_0 n_56_8
theorem t_56_5 : e_Sn 56 5 (e_un n_56_5) := u_callVT rfl (s_callV (ci := 4) (C := er_4) (T := et_4) (N := 5) (index := 68) hq_56 ho_56 hy_29 hp_29 hc_29 hi_29 hd_29 (List.mem_of_getElem? (i := 420) (by decide +kernel)) hs_29 (List.mem_of_getElem? (i := 422) (by decide +kernel)) rfl (by decide +kernel) rfl : e_Sn 56 5 (o_callV (e_s1 4 29 3) 2 8)) t_29_0 t_56_8
noncomputable def n_56_4 : e_Y := u_push (.inl 2147483648) n_56_5
theorem t_56_4 : e_Sn 56 4 (e_un n_56_4) := u_pushT (s_iconst (n := (0)) hq_56 (by decide +kernel) rfl ⟨by decide +kernel, by decide +kernel⟩ : e_Sn 56 4 (o_push (.inl 2147483648) 5)) t_56_5
noncomputable def n_56_1 : e_Y := u_getf 11 0 (u_old (o_getf (e_f1 11 0) 4) n_56_4) n_56_4
theorem t_56_1 : e_Sn 56 1 (e_un n_56_1) := u_getfT (s_getf (C := er_11) (T := et_11) (N := 15) (ref := "Plateroomprinter$World") (index := 14) (ci := 11) (k := 0) hq_56 ho_56 ⟨rfl, by decide, ei_11, (List.mem_of_getElem? (i := 459) (by decide +kernel)), .inl rfl⟩ (by decide +kernel) rfl : e_Sn 56 1 (o_getf (e_f1 11 0) 4)) t_56_4
noncomputable def n_56_0 : e_Y := u_ld f_okA f_l0 n_56_1
theorem t_56_0 : e_Sn 56 0 (e_un n_56_0) := u_ldAT f_l0_eq (s_aload (i := .aload_n 0) (len := 1) hq_56 (by decide +kernel) rfl (.inr ⟨0, rfl, rfl, rfl⟩) : e_Sn 56 0 (o_load e_okR 0 1)) t_56_1
noncomputable def e_tb_56 : e_X := (e_br 31 (e_lf 0 (e_un n_56_0)) (e_br 87 (e_lf 31 (e_un n_56_31)) (e_lf 87 (e_un n_56_87))))
theorem e_tk_56 : e_Tb 56 e_tb_56 := (e_brT (e_lfT t_56_0) (e_brT (e_lfT t_56_31) (e_lfT t_56_87)))
theorem hq_55 : (e_ml[55]?).map (·.2.1) = some prog_12_method_1_code := rfl
theorem ho_55 : (e_ml[55]?).map (·.1.cls) = some "Plateroomprinter$World" := rfl
theorem hr_55 : (e_ml[55]?).map (·.2.2.2) = some none := rfl
noncomputable def n_55_163 : e_Y := u_tab (o_retv)
theorem t_55_163 : e_Sn 55 163 (e_un n_55_163) := u_tabT (s_vret hq_55 hr_55 (by decide +kernel) : e_Sn 55 163 (o_retv))
noncomputable def n_55_160 : e_Y := u_callV 11 56 2 21 1 n_56_0 n_55_163
theorem t_55_160 : e_Sn 55 160 (e_un n_55_160) := u_callVT rfl (s_callV (ci := 11) (C := er_11) (T := et_11) (N := 15) (index := 65) hq_55 ho_55 hy_56 hp_56 hc_56 hi_56 hd_56 (List.mem_of_getElem? (i := 416) (by decide +kernel)) hs_56 (List.mem_of_getElem? (i := 418) (by decide +kernel)) rfl (by decide +kernel) rfl : e_Sn 55 160 (o_callV (e_s1 11 56 2) 1 163)) t_56_0 t_55_163
noncomputable def n_55_159 : e_Y := u_ld f_okA f_l0 n_55_160
theorem t_55_159 : e_Sn 55 159 (e_un n_55_159) := u_ldAT f_l0_eq (s_aload (i := .aload_n 0) (len := 1) hq_55 (by decide +kernel) rfl (.inr ⟨0, rfl, rfl, rfl⟩) : e_Sn 55 159 (o_load e_okR 0 160)) t_55_160
noncomputable def n_55_156 : e_Y := (u_at 135)
theorem t_55_156 : e_Sn 55 156 (e_un n_55_156) := u_gotoT (s_goto (off := (-21)) hq_55 (by decide +kernel) rfl : e_Sn 55 156 (o_goto 135)) u_atT
noncomputable def n_55_153 : e_Y := u_inc f_l1 f_s1 1 n_55_156
theorem t_55_153 : e_Sn 55 153 (e_un n_55_153) := u_incT f_l1_eq (fun _ _ _ => f_s1_eq) (s_iinc (zz := (1)) hq_55 (by decide +kernel) rfl (by decide +kernel) ⟨by decide, by decide⟩ : e_Sn 55 153 (o_iinc 1 1 156)) t_55_156
noncomputable def n_55_152 : e_Y := u_old (o_astR 4 (fun k => Nat.beq k 7) 153) n_55_153
theorem t_55_152 : e_Sn 55 152 (e_un n_55_152) := u_oldT (s_aast (tc := 1) (E := "Plateroomprinter$Path") hq_55 rfl (by decide) (fun k hk => by obtain rfl := Nat.eq_of_beq_eq_true hk; exact ⟨er_7, rfl, .inl ⟨rfl, by decide⟩⟩) (by decide +kernel) rfl : e_Sn 55 152 (o_astR 4 (fun k => Nat.beq k 7) 153)) t_55_153 (e_cg_astR 4 (fun k => Nat.beq k 7))
noncomputable def n_55_149 : e_Y := u_tab (o_callI 43 1 1 152)
theorem t_55_149 : e_Sn 55 149 (e_un n_55_149) := u_tabT (s_callIN (host := "Plateroomprinter") (index := 64) hq_55 ho_55 hy_43 hp_43 hc_43 hi_43 hd_43 (List.mem_of_getElem? (i := 415) (by decide +kernel)) rfl rfl hs_43 (by decide +kernel) rfl : e_Sn 55 149 (o_callI 43 1 1 152))
noncomputable def n_55_148 : e_Y := u_old (o_dup 149) n_55_149
theorem t_55_148 : e_Sn 55 148 (e_un n_55_148) := u_oldT (s_dup hq_55 (by decide +kernel) rfl : e_Sn 55 148 (o_dup 149)) t_55_149 e_cg_dup
noncomputable def n_55_145 : e_Y := u_tab (o_new 7 6 ef_7 148)
theorem t_55_145 : e_Sn 55 145 (e_un n_55_145) := u_tabT (s_new (index := 34) (ci := 7) (N := 6) (C := er_7) (T := et_7) (ty0 := ey_7) (fv := eg_7) hq_55 ho_55 rfl ei_7 eo_7 (List.mem_of_getElem? (i := 373) (by decide +kernel)) (List.mem_of_getElem? (i := 281) (by decide +kernel)) (List.mem_of_getElem? (i := 145) (by decide +kernel)) eh_7 rfl (e_newrel ek_7) (by decide +kernel) rfl : e_Sn 55 145 (o_new 7 6 ef_7 148))
noncomputable def n_55_144 : e_Y := u_ld f_okI f_l1 n_55_145
theorem t_55_144 : e_Sn 55 144 (e_un n_55_144) := u_ldIT f_l1_eq (s_iload (i := .iload_n 1) (len := 1) hq_55 (by decide +kernel) rfl (.inr ⟨1, rfl, rfl, rfl⟩) : e_Sn 55 144 (o_load e_okI 1 145)) t_55_145
noncomputable def n_55_141 : e_Y := u_getf 11 5 (u_old (o_getf (e_f1 11 5) 144) n_55_144) n_55_144
theorem t_55_141 : e_Sn 55 141 (e_un n_55_141) := u_getfT (s_getf (C := er_11) (T := et_11) (N := 15) (ref := "Plateroomprinter$World") (index := 36) (ci := 11) (k := 5) hq_55 ho_55 ⟨rfl, by decide, ei_11, (List.mem_of_getElem? (i := 473) (by decide +kernel)), .inl rfl⟩ (by decide +kernel) rfl : e_Sn 55 141 (o_getf (e_f1 11 5) 144)) t_55_144
noncomputable def n_55_140 : e_Y := u_ld f_okA f_l0 n_55_141
theorem t_55_140 : e_Sn 55 140 (e_un n_55_140) := u_ldAT f_l0_eq (s_aload (i := .aload_n 0) (len := 1) hq_55 (by decide +kernel) rfl (.inr ⟨0, rfl, rfl, rfl⟩) : e_Sn 55 140 (o_load e_okR 0 141)) t_55_141
noncomputable def n_55_137 : e_Y := u_jmp y_ge (u_old2 (o_clt 140 159) 140 n_55_140 n_55_159) n_55_140 n_55_159
theorem t_55_137 : e_Sn 55 137 (e_un n_55_137) := u_cltT rfl (s_cge (off := (22)) hq_55 (by decide +kernel) rfl rfl : e_Sn 55 137 (o_clt 140 159)) t_55_140 t_55_159
noncomputable def n_55_136 : e_Y := u_push (.inl 2147483653) n_55_137
theorem t_55_136 : e_Sn 55 136 (e_un n_55_136) := u_pushT (s_iconst (n := (5)) hq_55 (by decide +kernel) rfl ⟨by decide +kernel, by decide +kernel⟩ : e_Sn 55 136 (o_push (.inl 2147483653) 137)) t_55_137
noncomputable def n_55_135 : e_Y := u_ld f_okI f_l1 n_55_136
theorem t_55_135 : e_Sn 55 135 (e_un n_55_135) := u_ldIT f_l1_eq (s_iload (i := .iload_n 1) (len := 1) hq_55 (by decide +kernel) rfl (.inr ⟨1, rfl, rfl, rfl⟩) : e_Sn 55 135 (o_load e_okI 1 136)) t_55_136
noncomputable def n_55_134 : e_Y := u_st f_okI f_s1 n_55_135
theorem t_55_134 : e_Sn 55 134 (e_un n_55_134) := u_stIT (fun _ _ _ => f_s1_eq) (s_istore (i := .istore_n 1) (len := 1) hq_55 (by decide +kernel) rfl (.inr ⟨1, rfl, rfl, rfl⟩) : e_Sn 55 134 (o_store e_okI 1 135)) t_55_135
noncomputable def n_55_133 : e_Y := u_push (.inl 2147483648) n_55_134
theorem t_55_133 : e_Sn 55 133 (e_un n_55_133) := u_pushT (s_iconst (n := (0)) hq_55 (by decide +kernel) rfl ⟨by decide +kernel, by decide +kernel⟩ : e_Sn 55 133 (o_push (.inl 2147483648) 134)) t_55_134
noncomputable def n_55_130 : e_Y := (u_at 108)
theorem t_55_130 : e_Sn 55 130 (e_un n_55_130) := u_gotoT (s_goto (off := (-22)) hq_55 (by decide +kernel) rfl : e_Sn 55 130 (o_goto 108)) u_atT
noncomputable def n_55_127 : e_Y := u_inc f_l1 f_s1 1 n_55_130
theorem t_55_127 : e_Sn 55 127 (e_un n_55_127) := u_incT f_l1_eq (fun _ _ _ => f_s1_eq) (s_iinc (zz := (1)) hq_55 (by decide +kernel) rfl (by decide +kernel) ⟨by decide, by decide⟩ : e_Sn 55 127 (o_iinc 1 1 130)) t_55_130
noncomputable def n_55_126 : e_Y := u_old (o_astR 5 (fun k => Nat.beq k 10) 127) n_55_127
theorem t_55_126 : e_Sn 55 126 (e_un n_55_126) := u_oldT (s_aast (tc := 2) (E := "Plateroomprinter$State") hq_55 rfl (by decide) (fun k hk => by obtain rfl := Nat.eq_of_beq_eq_true hk; exact ⟨er_10, rfl, .inl ⟨rfl, by decide⟩⟩) (by decide +kernel) rfl : e_Sn 55 126 (o_astR 5 (fun k => Nat.beq k 10) 127)) t_55_127 (e_cg_astR 5 (fun k => Nat.beq k 10))
noncomputable def n_55_123 : e_Y := u_tab (o_callI 50 1 1 126)
theorem t_55_123 : e_Sn 55 123 (e_un n_55_123) := u_tabT (s_callIN (host := "Plateroomprinter") (index := 25) hq_55 ho_55 hy_50 hp_50 hc_50 hi_50 hd_50 (List.mem_of_getElem? (i := 251) (by decide +kernel)) rfl rfl hs_50 (by decide +kernel) rfl : e_Sn 55 123 (o_callI 50 1 1 126))
noncomputable def n_55_122 : e_Y := u_old (o_dup 123) n_55_123
theorem t_55_122 : e_Sn 55 122 (e_un n_55_122) := u_oldT (s_dup hq_55 (by decide +kernel) rfl : e_Sn 55 122 (o_dup 123)) t_55_123 e_cg_dup
noncomputable def n_55_119 : e_Y := u_tab (o_new 10 11 ef_10 122)
theorem t_55_119 : e_Sn 55 119 (e_un n_55_119) := u_tabT (s_new (index := 23) (ci := 10) (N := 11) (C := er_10) (T := et_10) (ty0 := ey_10) (fv := eg_10) hq_55 ho_55 rfl ei_10 eo_10 (List.mem_of_getElem? (i := 249) (by decide +kernel)) (List.mem_of_getElem? (i := 250) (by decide +kernel)) (List.mem_of_getElem? (i := 143) (by decide +kernel)) eh_10 rfl (e_newrel ek_10) (by decide +kernel) rfl : e_Sn 55 119 (o_new 10 11 ef_10 122))
noncomputable def n_55_118 : e_Y := u_ld f_okI f_l1 n_55_119
theorem t_55_118 : e_Sn 55 118 (e_un n_55_118) := u_ldIT f_l1_eq (s_iload (i := .iload_n 1) (len := 1) hq_55 (by decide +kernel) rfl (.inr ⟨1, rfl, rfl, rfl⟩) : e_Sn 55 118 (o_load e_okI 1 119)) t_55_119
noncomputable def n_55_115 : e_Y := u_getf 11 3 (u_old (o_getf (e_f1 11 3) 118) n_55_118) n_55_118
theorem t_55_115 : e_Sn 55 115 (e_un n_55_115) := u_getfT (s_getf (C := er_11) (T := et_11) (N := 15) (ref := "Plateroomprinter$World") (index := 30) (ci := 11) (k := 3) hq_55 ho_55 ⟨rfl, by decide, ei_11, (List.mem_of_getElem? (i := 468) (by decide +kernel)), .inl rfl⟩ (by decide +kernel) rfl : e_Sn 55 115 (o_getf (e_f1 11 3) 118)) t_55_118
noncomputable def n_55_114 : e_Y := u_ld f_okA f_l0 n_55_115
theorem t_55_114 : e_Sn 55 114 (e_un n_55_114) := u_ldAT f_l0_eq (s_aload (i := .aload_n 0) (len := 1) hq_55 (by decide +kernel) rfl (.inr ⟨0, rfl, rfl, rfl⟩) : e_Sn 55 114 (o_load e_okR 0 115)) t_55_115
noncomputable def n_55_111 : e_Y := u_jmp y_ge (u_old2 (o_clt 114 133) 114 n_55_114 n_55_133) n_55_114 n_55_133
theorem t_55_111 : e_Sn 55 111 (e_un n_55_111) := u_cltT rfl (s_cge (off := (22)) hq_55 (by decide +kernel) rfl rfl : e_Sn 55 111 (o_clt 114 133)) t_55_114 t_55_133
noncomputable def n_55_109 : e_Y := u_push (.inl 2147483656) n_55_111
theorem t_55_109 : e_Sn 55 109 (e_un n_55_109) := u_pushT (s_bipush (n := (8)) hq_55 (by decide +kernel) rfl ⟨by decide +kernel, by decide +kernel⟩ : e_Sn 55 109 (o_push (.inl 2147483656) 111)) t_55_111
noncomputable def n_55_108 : e_Y := u_ld f_okI f_l1 n_55_109
theorem t_55_108 : e_Sn 55 108 (e_un n_55_108) := u_ldIT f_l1_eq (s_iload (i := .iload_n 1) (len := 1) hq_55 (by decide +kernel) rfl (.inr ⟨1, rfl, rfl, rfl⟩) : e_Sn 55 108 (o_load e_okI 1 109)) t_55_109
noncomputable def n_55_107 : e_Y := u_st f_okI f_s1 n_55_108
theorem t_55_107 : e_Sn 55 107 (e_un n_55_107) := u_stIT (fun _ _ _ => f_s1_eq) (s_istore (i := .istore_n 1) (len := 1) hq_55 (by decide +kernel) rfl (.inr ⟨1, rfl, rfl, rfl⟩) : e_Sn 55 107 (o_store e_okI 1 108)) t_55_108
noncomputable def n_55_106 : e_Y := u_push (.inl 2147483648) n_55_107
theorem t_55_106 : e_Sn 55 106 (e_un n_55_106) := u_pushT (s_iconst (n := (0)) hq_55 (by decide +kernel) rfl ⟨by decide +kernel, by decide +kernel⟩ : e_Sn 55 106 (o_push (.inl 2147483648) 107)) t_55_107
noncomputable def n_55_103 : e_Y := u_old (o_putf (e_f1 11 11) e_okR 106) n_55_106
theorem t_55_103 : e_Sn 55 103 (e_un n_55_103) := u_oldT (s_putf (ty0 := ey_11) (ok := e_okR) (C := er_11) (T := et_11) (N := 15) (ref := "Plateroomprinter$World") (index := 61) (ci := 11) (k := 11) hq_55 ho_55 ⟨rfl, by decide, ei_11, (List.mem_of_getElem? (i := 491) (by decide +kernel)), .inl rfl⟩ eo_11 en_11 e_oksA (.inr ⟨rfl, rfl, rfl⟩) (by decide +kernel) rfl : e_Sn 55 103 (o_putf (e_f1 11 11) e_okR 106)) t_55_106 (e_cg_putf (e_f1 11 11) e_okR)
noncomputable def n_55_101 : e_Y := u_tab (o_newa 0 (e_I 2147483648) 103)
theorem t_55_101 : e_Sn 55 101 (e_un n_55_101) := u_tabT (s_newI (List.mem_of_getElem? (i := 215) (by decide +kernel)) hq_55 (by decide +kernel) rfl : e_Sn 55 101 (o_newa 0 (e_I 2147483648) 103))
noncomputable def n_55_99 : e_Y := u_push (.inl 2147483701) n_55_101
theorem t_55_99 : e_Sn 55 99 (e_un n_55_99) := u_pushT (s_bipush (n := (53)) hq_55 (by decide +kernel) rfl ⟨by decide +kernel, by decide +kernel⟩ : e_Sn 55 99 (o_push (.inl 2147483701) 101)) t_55_101
noncomputable def n_55_98 : e_Y := u_ld f_okA f_l0 n_55_99
theorem t_55_98 : e_Sn 55 98 (e_un n_55_98) := u_ldAT f_l0_eq (s_aload (i := .aload_n 0) (len := 1) hq_55 (by decide +kernel) rfl (.inr ⟨0, rfl, rfl, rfl⟩) : e_Sn 55 98 (o_load e_okR 0 99)) t_55_99
noncomputable def n_55_95 : e_Y := u_old (o_putf (e_f1 11 9) e_okR 98) n_55_98
theorem t_55_95 : e_Sn 55 95 (e_un n_55_95) := u_oldT (s_putf (ty0 := ey_11) (ok := e_okR) (C := er_11) (T := et_11) (N := 15) (ref := "Plateroomprinter$World") (index := 57) (ci := 11) (k := 9) hq_55 ho_55 ⟨rfl, by decide, ei_11, (List.mem_of_getElem? (i := 485) (by decide +kernel)), .inl rfl⟩ eo_11 en_11 e_oksR (.inr ⟨rfl, rfl, rfl⟩) (by decide +kernel) rfl : e_Sn 55 95 (o_putf (e_f1 11 9) e_okR 98)) t_55_98 (e_cg_putf (e_f1 11 9) e_okR)
noncomputable def n_55_92 : e_Y := u_tab (o_callI 26 1 1 95)
theorem t_55_92 : e_Sn 55 92 (e_un n_55_92) := u_tabT (s_callIN (host := "Plateroomprinter") (index := 56) hq_55 ho_55 hy_26 hp_26 hc_26 hi_26 hd_26 (List.mem_of_getElem? (i := 388) (by decide +kernel)) rfl rfl hs_26 (by decide +kernel) rfl : e_Sn 55 92 (o_callI 26 1 1 95))
noncomputable def n_55_91 : e_Y := u_old (o_dup 92) n_55_92
theorem t_55_91 : e_Sn 55 91 (e_un n_55_91) := u_oldT (s_dup hq_55 (by decide +kernel) rfl : e_Sn 55 91 (o_dup 92)) t_55_92 e_cg_dup
noncomputable def n_55_88 : e_Y := u_tab (o_new 3 5 ef_3 91)
theorem t_55_88 : e_Sn 55 88 (e_un n_55_88) := u_tabT (s_new (index := 54) (ci := 3) (N := 5) (C := er_3) (T := et_3) (ty0 := ey_3) (fv := eg_3) hq_55 ho_55 rfl ei_3 eo_3 (List.mem_of_getElem? (i := 386) (by decide +kernel)) (List.mem_of_getElem? (i := 387) (by decide +kernel)) (List.mem_of_getElem? (i := 147) (by decide +kernel)) eh_3 rfl (e_newrel ek_3) (by decide +kernel) rfl : e_Sn 55 88 (o_new 3 5 ef_3 91))
noncomputable def n_55_87 : e_Y := u_ld f_okA f_l0 n_55_88
theorem t_55_87 : e_Sn 55 87 (e_un n_55_87) := u_ldAT f_l0_eq (s_aload (i := .aload_n 0) (len := 1) hq_55 (by decide +kernel) rfl (.inr ⟨0, rfl, rfl, rfl⟩) : e_Sn 55 87 (o_load e_okR 0 88)) t_55_88
noncomputable def n_55_84 : e_Y := u_old (o_putf (e_f1 11 8) e_okR 87) n_55_87
theorem t_55_84 : e_Sn 55 84 (e_un n_55_84) := u_oldT (s_putf (ty0 := ey_11) (ok := e_okR) (C := er_11) (T := et_11) (N := 15) (ref := "Plateroomprinter$World") (index := 51) (ci := 11) (k := 8) hq_55 ho_55 ⟨rfl, by decide, ei_11, (List.mem_of_getElem? (i := 482) (by decide +kernel)), .inl rfl⟩ eo_11 en_11 e_oksR (.inr ⟨rfl, rfl, rfl⟩) (by decide +kernel) rfl : e_Sn 55 84 (o_putf (e_f1 11 8) e_okR 87)) t_55_87 (e_cg_putf (e_f1 11 8) e_okR)
noncomputable def n_55_81 : e_Y := u_tab (o_callI 47 1 1 84)
theorem t_55_81 : e_Sn 55 81 (e_un n_55_81) := u_tabT (s_callIN (host := "Plateroomprinter") (index := 46) hq_55 ho_55 hy_47 hp_47 hc_47 hi_47 hd_47 (List.mem_of_getElem? (i := 377) (by decide +kernel)) rfl rfl hs_47 (by decide +kernel) rfl : e_Sn 55 81 (o_callI 47 1 1 84))
noncomputable def n_55_80 : e_Y := u_old (o_dup 81) n_55_81
theorem t_55_80 : e_Sn 55 80 (e_un n_55_80) := u_oldT (s_dup hq_55 (by decide +kernel) rfl : e_Sn 55 80 (o_dup 81)) t_55_81 e_cg_dup
noncomputable def n_55_77 : e_Y := u_tab (o_new 9 1 ef_9 80)
theorem t_55_77 : e_Sn 55 77 (e_un n_55_77) := u_tabT (s_new (index := 44) (ci := 9) (N := 1) (C := er_9) (T := et_9) (ty0 := ey_9) (fv := eg_9) hq_55 ho_55 rfl ei_9 eo_9 (List.mem_of_getElem? (i := 375) (by decide +kernel)) (List.mem_of_getElem? (i := 376) (by decide +kernel)) (List.mem_of_getElem? (i := 146) (by decide +kernel)) eh_9 rfl (e_newrel ek_9) (by decide +kernel) rfl : e_Sn 55 77 (o_new 9 1 ef_9 80))
noncomputable def n_55_76 : e_Y := u_ld f_okA f_l0 n_55_77
theorem t_55_76 : e_Sn 55 76 (e_un n_55_76) := u_ldAT f_l0_eq (s_aload (i := .aload_n 0) (len := 1) hq_55 (by decide +kernel) rfl (.inr ⟨0, rfl, rfl, rfl⟩) : e_Sn 55 76 (o_load e_okR 0 77)) t_55_77
noncomputable def n_55_73 : e_Y := u_old (o_putf (e_f1 11 7) e_okR 76) n_55_76
theorem t_55_73 : e_Sn 55 73 (e_un n_55_73) := u_oldT (s_putf (ty0 := ey_11) (ok := e_okR) (C := er_11) (T := et_11) (N := 15) (ref := "Plateroomprinter$World") (index := 47) (ci := 11) (k := 7) hq_55 ho_55 ⟨rfl, by decide, ei_11, (List.mem_of_getElem? (i := 479) (by decide +kernel)), .inl rfl⟩ eo_11 en_11 e_oksR (.inr ⟨rfl, rfl, rfl⟩) (by decide +kernel) rfl : e_Sn 55 73 (o_putf (e_f1 11 7) e_okR 76)) t_55_76 (e_cg_putf (e_f1 11 7) e_okR)
noncomputable def n_55_70 : e_Y := u_tab (o_callI 47 1 1 73)
theorem t_55_70 : e_Sn 55 70 (e_un n_55_70) := u_tabT (s_callIN (host := "Plateroomprinter") (index := 46) hq_55 ho_55 hy_47 hp_47 hc_47 hi_47 hd_47 (List.mem_of_getElem? (i := 377) (by decide +kernel)) rfl rfl hs_47 (by decide +kernel) rfl : e_Sn 55 70 (o_callI 47 1 1 73))
noncomputable def n_55_69 : e_Y := u_old (o_dup 70) n_55_70
theorem t_55_69 : e_Sn 55 69 (e_un n_55_69) := u_oldT (s_dup hq_55 (by decide +kernel) rfl : e_Sn 55 69 (o_dup 70)) t_55_70 e_cg_dup
noncomputable def n_55_66 : e_Y := u_tab (o_new 9 1 ef_9 69)
theorem t_55_66 : e_Sn 55 66 (e_un n_55_66) := u_tabT (s_new (index := 44) (ci := 9) (N := 1) (C := er_9) (T := et_9) (ty0 := ey_9) (fv := eg_9) hq_55 ho_55 rfl ei_9 eo_9 (List.mem_of_getElem? (i := 375) (by decide +kernel)) (List.mem_of_getElem? (i := 376) (by decide +kernel)) (List.mem_of_getElem? (i := 146) (by decide +kernel)) eh_9 rfl (e_newrel ek_9) (by decide +kernel) rfl : e_Sn 55 66 (o_new 9 1 ef_9 69))
noncomputable def n_55_65 : e_Y := u_ld f_okA f_l0 n_55_66
theorem t_55_65 : e_Sn 55 65 (e_un n_55_65) := u_ldAT f_l0_eq (s_aload (i := .aload_n 0) (len := 1) hq_55 (by decide +kernel) rfl (.inr ⟨0, rfl, rfl, rfl⟩) : e_Sn 55 65 (o_load e_okR 0 66)) t_55_66
noncomputable def n_55_62 : e_Y := u_old (o_putf (e_f1 11 6) e_okR 65) n_55_65
theorem t_55_62 : e_Sn 55 62 (e_un n_55_62) := u_oldT (s_putf (ty0 := ey_11) (ok := e_okR) (C := er_11) (T := et_11) (N := 15) (ref := "Plateroomprinter$World") (index := 40) (ci := 11) (k := 6) hq_55 ho_55 ⟨rfl, by decide, ei_11, (List.mem_of_getElem? (i := 476) (by decide +kernel)), .inl rfl⟩ eo_11 en_11 e_oksA (.inr ⟨rfl, rfl, rfl⟩) (by decide +kernel) rfl : e_Sn 55 62 (o_putf (e_f1 11 6) e_okR 65)) t_55_65 (e_cg_putf (e_f1 11 6) e_okR)
noncomputable def n_55_60 : e_Y := u_tab (o_newa 0 (e_I 2147483648) 62)
theorem t_55_60 : e_Sn 55 60 (e_un n_55_60) := u_tabT (s_newI (List.mem_of_getElem? (i := 215) (by decide +kernel)) hq_55 (by decide +kernel) rfl : e_Sn 55 60 (o_newa 0 (e_I 2147483648) 62))
noncomputable def n_55_59 : e_Y := u_push (.inl 2147483653) n_55_60
theorem t_55_59 : e_Sn 55 59 (e_un n_55_59) := u_pushT (s_iconst (n := (5)) hq_55 (by decide +kernel) rfl ⟨by decide +kernel, by decide +kernel⟩ : e_Sn 55 59 (o_push (.inl 2147483653) 60)) t_55_60
noncomputable def n_55_58 : e_Y := u_ld f_okA f_l0 n_55_59
theorem t_55_58 : e_Sn 55 58 (e_un n_55_58) := u_ldAT f_l0_eq (s_aload (i := .aload_n 0) (len := 1) hq_55 (by decide +kernel) rfl (.inr ⟨0, rfl, rfl, rfl⟩) : e_Sn 55 58 (o_load e_okR 0 59)) t_55_59
noncomputable def n_55_55 : e_Y := u_old (o_putf (e_f1 11 5) e_okR 58) n_55_58
theorem t_55_55 : e_Sn 55 55 (e_un n_55_55) := u_oldT (s_putf (ty0 := ey_11) (ok := e_okR) (C := er_11) (T := et_11) (N := 15) (ref := "Plateroomprinter$World") (index := 36) (ci := 11) (k := 5) hq_55 ho_55 ⟨rfl, by decide, ei_11, (List.mem_of_getElem? (i := 473) (by decide +kernel)), .inl rfl⟩ eo_11 en_11 e_oksA (.inr ⟨rfl, rfl, rfl⟩) (by decide +kernel) rfl : e_Sn 55 55 (o_putf (e_f1 11 5) e_okR 58)) t_55_58 (e_cg_putf (e_f1 11 5) e_okR)
noncomputable def n_55_52 : e_Y := u_tab (o_newa 4 e_N 55)
theorem t_55_52 : e_Sn 55 52 (e_un n_55_52) := u_tabT (s_newR (tc := 1) (index := 34) (E := "Plateroomprinter$Path") rfl ho_55 (List.mem_of_getElem? (i := 373) (by decide +kernel)) (fun s h => h _ (List.mem_filter.mpr ⟨(List.mem_of_getElem? (i := 374) (by decide +kernel)), rfl⟩)) hq_55 (by decide +kernel) rfl : e_Sn 55 52 (o_newa 4 e_N 55))
noncomputable def n_55_51 : e_Y := u_push (.inl 2147483653) n_55_52
theorem t_55_51 : e_Sn 55 51 (e_un n_55_51) := u_pushT (s_iconst (n := (5)) hq_55 (by decide +kernel) rfl ⟨by decide +kernel, by decide +kernel⟩ : e_Sn 55 51 (o_push (.inl 2147483653) 52)) t_55_52
noncomputable def n_55_50 : e_Y := u_ld f_okA f_l0 n_55_51
theorem t_55_50 : e_Sn 55 50 (e_un n_55_50) := u_ldAT f_l0_eq (s_aload (i := .aload_n 0) (len := 1) hq_55 (by decide +kernel) rfl (.inr ⟨0, rfl, rfl, rfl⟩) : e_Sn 55 50 (o_load e_okR 0 51)) t_55_51
noncomputable def n_55_47 : e_Y := u_old (o_putf (e_f1 11 3) e_okR 50) n_55_50
theorem t_55_47 : e_Sn 55 47 (e_un n_55_47) := u_oldT (s_putf (ty0 := ey_11) (ok := e_okR) (C := er_11) (T := et_11) (N := 15) (ref := "Plateroomprinter$World") (index := 30) (ci := 11) (k := 3) hq_55 ho_55 ⟨rfl, by decide, ei_11, (List.mem_of_getElem? (i := 468) (by decide +kernel)), .inl rfl⟩ eo_11 en_11 e_oksA (.inr ⟨rfl, rfl, rfl⟩) (by decide +kernel) rfl : e_Sn 55 47 (o_putf (e_f1 11 3) e_okR 50)) t_55_50 (e_cg_putf (e_f1 11 3) e_okR)
noncomputable def n_55_44 : e_Y := u_tab (o_newa 5 e_N 47)
theorem t_55_44 : e_Sn 55 44 (e_un n_55_44) := u_tabT (s_newR (tc := 2) (index := 23) (E := "Plateroomprinter$State") rfl ho_55 (List.mem_of_getElem? (i := 249) (by decide +kernel)) (fun s h => h _ (List.mem_filter.mpr ⟨(List.mem_of_getElem? (i := 372) (by decide +kernel)), rfl⟩)) hq_55 (by decide +kernel) rfl : e_Sn 55 44 (o_newa 5 e_N 47))
noncomputable def n_55_42 : e_Y := u_push (.inl 2147483656) n_55_44
theorem t_55_42 : e_Sn 55 42 (e_un n_55_42) := u_pushT (s_bipush (n := (8)) hq_55 (by decide +kernel) rfl ⟨by decide +kernel, by decide +kernel⟩ : e_Sn 55 42 (o_push (.inl 2147483656) 44)) t_55_44
noncomputable def n_55_41 : e_Y := u_ld f_okA f_l0 n_55_42
theorem t_55_41 : e_Sn 55 41 (e_un n_55_41) := u_ldAT f_l0_eq (s_aload (i := .aload_n 0) (len := 1) hq_55 (by decide +kernel) rfl (.inr ⟨0, rfl, rfl, rfl⟩) : e_Sn 55 41 (o_load e_okR 0 42)) t_55_42
noncomputable def n_55_38 : e_Y := u_old (o_putf (e_f1 11 2) e_okR 41) n_55_41
theorem t_55_38 : e_Sn 55 38 (e_un n_55_38) := u_oldT (s_putf (ty0 := ey_11) (ok := e_okR) (C := er_11) (T := et_11) (N := 15) (ref := "Plateroomprinter$World") (index := 26) (ci := 11) (k := 2) hq_55 ho_55 ⟨rfl, by decide, ei_11, (List.mem_of_getElem? (i := 465) (by decide +kernel)), .inl rfl⟩ eo_11 en_11 e_oksR (.inr ⟨rfl, rfl, rfl⟩) (by decide +kernel) rfl : e_Sn 55 38 (o_putf (e_f1 11 2) e_okR 41)) t_55_41 (e_cg_putf (e_f1 11 2) e_okR)
noncomputable def n_55_35 : e_Y := u_tab (o_callI 50 1 1 38)
theorem t_55_35 : e_Sn 55 35 (e_un n_55_35) := u_tabT (s_callIN (host := "Plateroomprinter") (index := 25) hq_55 ho_55 hy_50 hp_50 hc_50 hi_50 hd_50 (List.mem_of_getElem? (i := 251) (by decide +kernel)) rfl rfl hs_50 (by decide +kernel) rfl : e_Sn 55 35 (o_callI 50 1 1 38))
noncomputable def n_55_34 : e_Y := u_old (o_dup 35) n_55_35
theorem t_55_34 : e_Sn 55 34 (e_un n_55_34) := u_oldT (s_dup hq_55 (by decide +kernel) rfl : e_Sn 55 34 (o_dup 35)) t_55_35 e_cg_dup
noncomputable def n_55_31 : e_Y := u_tab (o_new 10 11 ef_10 34)
theorem t_55_31 : e_Sn 55 31 (e_un n_55_31) := u_tabT (s_new (index := 23) (ci := 10) (N := 11) (C := er_10) (T := et_10) (ty0 := ey_10) (fv := eg_10) hq_55 ho_55 rfl ei_10 eo_10 (List.mem_of_getElem? (i := 249) (by decide +kernel)) (List.mem_of_getElem? (i := 250) (by decide +kernel)) (List.mem_of_getElem? (i := 143) (by decide +kernel)) eh_10 rfl (e_newrel ek_10) (by decide +kernel) rfl : e_Sn 55 31 (o_new 10 11 ef_10 34))
noncomputable def n_55_30 : e_Y := u_ld f_okA f_l0 n_55_31
theorem t_55_30 : e_Sn 55 30 (e_un n_55_30) := u_ldAT f_l0_eq (s_aload (i := .aload_n 0) (len := 1) hq_55 (by decide +kernel) rfl (.inr ⟨0, rfl, rfl, rfl⟩) : e_Sn 55 30 (o_load e_okR 0 31)) t_55_31
noncomputable def n_55_27 : e_Y := u_old (o_putf (e_f1 11 1) e_okR 30) n_55_30
theorem t_55_27 : e_Sn 55 27 (e_un n_55_27) := u_oldT (s_putf (ty0 := ey_11) (ok := e_okR) (C := er_11) (T := et_11) (N := 15) (ref := "Plateroomprinter$World") (index := 20) (ci := 11) (k := 1) hq_55 ho_55 ⟨rfl, by decide, ei_11, (List.mem_of_getElem? (i := 462) (by decide +kernel)), .inl rfl⟩ eo_11 en_11 e_oksR (.inr ⟨rfl, rfl, rfl⟩) (by decide +kernel) rfl : e_Sn 55 27 (o_putf (e_f1 11 1) e_okR 30)) t_55_30 (e_cg_putf (e_f1 11 1) e_okR)
noncomputable def n_55_24 : e_Y := u_tab (o_callI 28 2 2 27)
theorem t_55_24 : e_Sn 55 24 (e_un n_55_24) := u_tabT (s_callI (index := 11) hq_55 ho_55 hy_28 hp_28 hc_28 hi_28 hd_28 (List.mem_of_getElem? (i := 224) (by decide +kernel)) rfl rfl hs_28 (by decide +kernel) rfl : e_Sn 55 24 (o_callI 28 2 2 27))
noncomputable def n_55_22 : e_Y := u_push (.inl 2147483658) n_55_24
theorem t_55_22 : e_Sn 55 22 (e_un n_55_22) := u_pushT (s_bipush (n := (10)) hq_55 (by decide +kernel) rfl ⟨by decide +kernel, by decide +kernel⟩ : e_Sn 55 22 (o_push (.inl 2147483658) 24)) t_55_24
noncomputable def n_55_21 : e_Y := u_old (o_dup 22) n_55_22
theorem t_55_21 : e_Sn 55 21 (e_un n_55_21) := u_oldT (s_dup hq_55 (by decide +kernel) rfl : e_Sn 55 21 (o_dup 22)) t_55_22 e_cg_dup
noncomputable def n_55_18 : e_Y := u_tab (o_new 4 5 ef_4 21)
theorem t_55_18 : e_Sn 55 18 (e_un n_55_18) := u_tabT (s_new (index := 9) (ci := 4) (N := 5) (C := er_4) (T := et_4) (ty0 := ey_4) (fv := eg_4) hq_55 ho_55 rfl ei_4 eo_4 (List.mem_of_getElem? (i := 222) (by decide +kernel)) (List.mem_of_getElem? (i := 223) (by decide +kernel)) (List.mem_of_getElem? (i := 141) (by decide +kernel)) eh_4 rfl (e_newrel ek_4) (by decide +kernel) rfl : e_Sn 55 18 (o_new 4 5 ef_4 21))
noncomputable def n_55_17 : e_Y := u_ld f_okA f_l0 n_55_18
theorem t_55_17 : e_Sn 55 17 (e_un n_55_17) := u_ldAT f_l0_eq (s_aload (i := .aload_n 0) (len := 1) hq_55 (by decide +kernel) rfl (.inr ⟨0, rfl, rfl, rfl⟩) : e_Sn 55 17 (o_load e_okR 0 18)) t_55_18
noncomputable def n_55_14 : e_Y := u_old (o_putf (e_f1 11 0) e_okR 17) n_55_17
theorem t_55_14 : e_Sn 55 14 (e_un n_55_14) := u_oldT (s_putf (ty0 := ey_11) (ok := e_okR) (C := er_11) (T := et_11) (N := 15) (ref := "Plateroomprinter$World") (index := 14) (ci := 11) (k := 0) hq_55 ho_55 ⟨rfl, by decide, ei_11, (List.mem_of_getElem? (i := 459) (by decide +kernel)), .inl rfl⟩ eo_11 en_11 e_oksR (.inr ⟨rfl, rfl, rfl⟩) (by decide +kernel) rfl : e_Sn 55 14 (o_putf (e_f1 11 0) e_okR 17)) t_55_17 (e_cg_putf (e_f1 11 0) e_okR)
noncomputable def n_55_11 : e_Y := u_tab (o_callI 28 2 2 14)
theorem t_55_11 : e_Sn 55 11 (e_un n_55_11) := u_tabT (s_callI (index := 11) hq_55 ho_55 hy_28 hp_28 hc_28 hi_28 hd_28 (List.mem_of_getElem? (i := 224) (by decide +kernel)) rfl rfl hs_28 (by decide +kernel) rfl : e_Sn 55 11 (o_callI 28 2 2 14))
noncomputable def n_55_9 : e_Y := u_push (.inl 2147483688) n_55_11
theorem t_55_9 : e_Sn 55 9 (e_un n_55_9) := u_pushT (s_bipush (n := (40)) hq_55 (by decide +kernel) rfl ⟨by decide +kernel, by decide +kernel⟩ : e_Sn 55 9 (o_push (.inl 2147483688) 11)) t_55_11
noncomputable def n_55_8 : e_Y := u_old (o_dup 9) n_55_9
theorem t_55_8 : e_Sn 55 8 (e_un n_55_8) := u_oldT (s_dup hq_55 (by decide +kernel) rfl : e_Sn 55 8 (o_dup 9)) t_55_9 e_cg_dup
noncomputable def n_55_5 : e_Y := u_tab (o_new 4 5 ef_4 8)
theorem t_55_5 : e_Sn 55 5 (e_un n_55_5) := u_tabT (s_new (index := 9) (ci := 4) (N := 5) (C := er_4) (T := et_4) (ty0 := ey_4) (fv := eg_4) hq_55 ho_55 rfl ei_4 eo_4 (List.mem_of_getElem? (i := 222) (by decide +kernel)) (List.mem_of_getElem? (i := 223) (by decide +kernel)) (List.mem_of_getElem? (i := 141) (by decide +kernel)) eh_4 rfl (e_newrel ek_4) (by decide +kernel) rfl : e_Sn 55 5 (o_new 4 5 ef_4 8))
noncomputable def n_55_4 : e_Y := u_ld f_okA f_l0 n_55_5
theorem t_55_4 : e_Sn 55 4 (e_un n_55_4) := u_ldAT f_l0_eq (s_aload (i := .aload_n 0) (len := 1) hq_55 (by decide +kernel) rfl (.inr ⟨0, rfl, rfl, rfl⟩) : e_Sn 55 4 (o_load e_okR 0 5)) t_55_5
noncomputable def n_55_1 : e_Y := u_tab (o_oinit 4)
theorem t_55_1 : e_Sn 55 1 (e_un n_55_1) := u_tabT (s_oinit (idx := 3) hq_55 ho_55 (List.mem_of_getElem? (i := 221) (by decide +kernel)) (List.mem_of_getElem? (i := 190) (by decide +kernel)) (List.mem_of_getElem? (i := 191) (by decide +kernel)) (by decide +kernel) rfl : e_Sn 55 1 (o_oinit 4))
noncomputable def n_55_0 : e_Y := u_ld f_okA f_l0 n_55_1
theorem t_55_0 : e_Sn 55 0 (e_un n_55_0) := u_ldAT f_l0_eq (s_aload (i := .aload_n 0) (len := 1) hq_55 (by decide +kernel) rfl (.inr ⟨0, rfl, rfl, rfl⟩) : e_Sn 55 0 (o_load e_okR 0 1)) t_55_1
noncomputable def e_tb_55 : e_X := (e_br 73 (e_br 34 (e_br 14 (e_br 4 (e_lf 0 (e_un n_55_0)) (e_br 8 (e_lf 4 (e_un n_55_4)) (e_lf 8 (e_un n_55_8)))) (e_br 21 (e_lf 14 (e_un n_55_14)) (e_br 27 (e_lf 21 (e_un n_55_21)) (e_lf 27 (e_un n_55_27))))) (e_br 55 (e_br 38 (e_lf 34 (e_un n_55_34)) (e_br 47 (e_lf 38 (e_un n_55_38)) (e_lf 47 (e_un n_55_47)))) (e_br 62 (e_lf 55 (e_un n_55_55)) (e_br 69 (e_lf 62 (e_un n_55_62)) (e_lf 69 (e_un n_55_69)))))) (e_br 108 (e_br 91 (e_br 80 (e_lf 73 (e_un n_55_73)) (e_br 84 (e_lf 80 (e_un n_55_80)) (e_lf 84 (e_un n_55_84)))) (e_br 95 (e_lf 91 (e_un n_55_91)) (e_br 103 (e_lf 95 (e_un n_55_95)) (e_lf 103 (e_un n_55_103))))) (e_br 135 (e_br 122 (e_lf 108 (e_un n_55_108)) (e_br 126 (e_lf 122 (e_un n_55_122)) (e_lf 126 (e_un n_55_126)))) (e_br 148 (e_lf 135 (e_un n_55_135)) (e_br 152 (e_lf 148 (e_un n_55_148)) (e_lf 152 (e_un n_55_152)))))))
theorem e_tk_55 : e_Tb 55 e_tb_55 := (e_brT (e_brT (e_brT (e_brT (e_lfT t_55_0) (e_brT (e_lfT t_55_4) (e_lfT t_55_8))) (e_brT (e_lfT t_55_14) (e_brT (e_lfT t_55_21) (e_lfT t_55_27)))) (e_brT (e_brT (e_lfT t_55_34) (e_brT (e_lfT t_55_38) (e_lfT t_55_47))) (e_brT (e_lfT t_55_55) (e_brT (e_lfT t_55_62) (e_lfT t_55_69))))) (e_brT (e_brT (e_brT (e_lfT t_55_73) (e_brT (e_lfT t_55_80) (e_lfT t_55_84))) (e_brT (e_lfT t_55_91) (e_brT (e_lfT t_55_95) (e_lfT t_55_103)))) (e_brT (e_brT (e_lfT t_55_108) (e_brT (e_lfT t_55_122) (e_lfT t_55_126))) (e_brT (e_lfT t_55_135) (e_brT (e_lfT t_55_148) (e_lfT t_55_152))))))
theorem hq_0 : (e_ml[0]?).map (·.2.1) = some prog_1_method_1_code := rfl
theorem ho_0 : (e_ml[0]?).map (·.1.cls) = some "Plateroomprinter" := rfl
theorem hr_0 : (e_ml[0]?).map (·.2.2.2) = some none := rfl
noncomputable def n_0_166 : e_Y := u_tab (o_retv)
theorem t_0_166 : e_Sn 0 166 (e_un n_0_166) := u_tabT (s_vret hq_0 hr_0 (by decide +kernel) : e_Sn 0 166 (o_retv))
noncomputable def n_0_163 : e_Y := u_old (o_putf (e_f1 0 16) e_okI 166) n_0_166
theorem t_0_163 : e_Sn 0 163 (e_un n_0_163) := u_oldT (s_putf (ty0 := ey_0) (ok := e_okI) (C := er_0) (T := et_0) (N := 17) (ref := "Plateroomprinter") (index := 87) (ci := 0) (k := 16) hq_0 ho_0 ⟨rfl, by decide, ei_0, (List.mem_of_getElem? (i := 696) (by decide +kernel)), .inl rfl⟩ eo_0 en_0 e_oksI (.inl rfl) (by decide +kernel) rfl : e_Sn 0 163 (o_putf (e_f1 0 16) e_okI 166)) t_0_166 (e_cg_putf (e_f1 0 16) e_okI)
noncomputable def n_0_162 : e_Y := u_push (.inl 2147483647) n_0_163
theorem t_0_162 : e_Sn 0 162 (e_un n_0_162) := u_pushT (s_iconst (n := (-1)) hq_0 (by decide +kernel) rfl ⟨by decide +kernel, by decide +kernel⟩ : e_Sn 0 162 (o_push (.inl 2147483647) 163)) t_0_163
noncomputable def n_0_161 : e_Y := u_ld f_okA f_l0 n_0_162
theorem t_0_161 : e_Sn 0 161 (e_un n_0_161) := u_ldAT f_l0_eq (s_aload (i := .aload_n 0) (len := 1) hq_0 (by decide +kernel) rfl (.inr ⟨0, rfl, rfl, rfl⟩) : e_Sn 0 161 (o_load e_okR 0 162)) t_0_162
noncomputable def n_0_158 : e_Y := u_old (o_putf (e_f1 0 15) e_okI 161) n_0_161
theorem t_0_158 : e_Sn 0 158 (e_un n_0_158) := u_oldT (s_putf (ty0 := ey_0) (ok := e_okI) (C := er_0) (T := et_0) (N := 17) (ref := "Plateroomprinter") (index := 84) (ci := 0) (k := 15) hq_0 ho_0 ⟨rfl, by decide, ei_0, (List.mem_of_getElem? (i := 695) (by decide +kernel)), .inl rfl⟩ eo_0 en_0 e_oksI (.inl rfl) (by decide +kernel) rfl : e_Sn 0 158 (o_putf (e_f1 0 15) e_okI 161)) t_0_161 (e_cg_putf (e_f1 0 15) e_okI)
noncomputable def n_0_157 : e_Y := u_push (.inl 2147483647) n_0_158
theorem t_0_157 : e_Sn 0 157 (e_un n_0_157) := u_pushT (s_iconst (n := (-1)) hq_0 (by decide +kernel) rfl ⟨by decide +kernel, by decide +kernel⟩ : e_Sn 0 157 (o_push (.inl 2147483647) 158)) t_0_158
noncomputable def n_0_156 : e_Y := u_ld f_okA f_l0 n_0_157
theorem t_0_156 : e_Sn 0 156 (e_un n_0_156) := u_ldAT f_l0_eq (s_aload (i := .aload_n 0) (len := 1) hq_0 (by decide +kernel) rfl (.inr ⟨0, rfl, rfl, rfl⟩) : e_Sn 0 156 (o_load e_okR 0 157)) t_0_157
noncomputable def n_0_153 : e_Y := u_old (o_putf (e_f1 0 14) e_okI 156) n_0_156
theorem t_0_153 : e_Sn 0 153 (e_un n_0_153) := u_oldT (s_putf (ty0 := ey_0) (ok := e_okI) (C := er_0) (T := et_0) (N := 17) (ref := "Plateroomprinter") (index := 81) (ci := 0) (k := 14) hq_0 ho_0 ⟨rfl, by decide, ei_0, (List.mem_of_getElem? (i := 694) (by decide +kernel)), .inl rfl⟩ eo_0 en_0 e_oksI (.inl rfl) (by decide +kernel) rfl : e_Sn 0 153 (o_putf (e_f1 0 14) e_okI 156)) t_0_156 (e_cg_putf (e_f1 0 14) e_okI)
noncomputable def n_0_152 : e_Y := u_push (.inl 2147483648) n_0_153
theorem t_0_152 : e_Sn 0 152 (e_un n_0_152) := u_pushT (s_iconst (n := (0)) hq_0 (by decide +kernel) rfl ⟨by decide +kernel, by decide +kernel⟩ : e_Sn 0 152 (o_push (.inl 2147483648) 153)) t_0_153
noncomputable def n_0_151 : e_Y := u_ld f_okA f_l0 n_0_152
theorem t_0_151 : e_Sn 0 151 (e_un n_0_151) := u_ldAT f_l0_eq (s_aload (i := .aload_n 0) (len := 1) hq_0 (by decide +kernel) rfl (.inr ⟨0, rfl, rfl, rfl⟩) : e_Sn 0 151 (o_load e_okR 0 152)) t_0_152
noncomputable def n_0_148 : e_Y := u_old (o_putf (e_f1 0 13) e_okI 151) n_0_151
theorem t_0_148 : e_Sn 0 148 (e_un n_0_148) := u_oldT (s_putf (ty0 := ey_0) (ok := e_okI) (C := er_0) (T := et_0) (N := 17) (ref := "Plateroomprinter") (index := 77) (ci := 0) (k := 13) hq_0 ho_0 ⟨rfl, by decide, ei_0, (List.mem_of_getElem? (i := 693) (by decide +kernel)), .inl rfl⟩ eo_0 en_0 e_oksI (.inl rfl) (by decide +kernel) rfl : e_Sn 0 148 (o_putf (e_f1 0 13) e_okI 151)) t_0_151 (e_cg_putf (e_f1 0 13) e_okI)
noncomputable def n_0_147 : e_Y := u_push (.inl 2147483648) n_0_148
theorem t_0_147 : e_Sn 0 147 (e_un n_0_147) := u_pushT (s_iconst (n := (0)) hq_0 (by decide +kernel) rfl ⟨by decide +kernel, by decide +kernel⟩ : e_Sn 0 147 (o_push (.inl 2147483648) 148)) t_0_148
noncomputable def n_0_146 : e_Y := u_ld f_okA f_l0 n_0_147
theorem t_0_146 : e_Sn 0 146 (e_un n_0_146) := u_ldAT f_l0_eq (s_aload (i := .aload_n 0) (len := 1) hq_0 (by decide +kernel) rfl (.inr ⟨0, rfl, rfl, rfl⟩) : e_Sn 0 146 (o_load e_okR 0 147)) t_0_147
noncomputable def n_0_143 : e_Y := u_old (o_putf (e_f1 0 12) e_okR 146) n_0_146
theorem t_0_143 : e_Sn 0 143 (e_un n_0_143) := u_oldT (s_putf (ty0 := ey_0) (ok := e_okR) (C := er_0) (T := et_0) (N := 17) (ref := "Plateroomprinter") (index := 74) (ci := 0) (k := 12) hq_0 ho_0 ⟨rfl, by decide, ei_0, (List.mem_of_getElem? (i := 692) (by decide +kernel)), .inl rfl⟩ eo_0 en_0 e_oksA (.inr ⟨rfl, rfl, rfl⟩) (by decide +kernel) rfl : e_Sn 0 143 (o_putf (e_f1 0 12) e_okR 146)) t_0_146 (e_cg_putf (e_f1 0 12) e_okR)
noncomputable def n_0_141 : e_Y := u_tab (o_newa 0 (e_I 2147483648) 143)
theorem t_0_141 : e_Sn 0 141 (e_un n_0_141) := u_tabT (s_newI (List.mem_of_getElem? (i := 215) (by decide +kernel)) hq_0 (by decide +kernel) rfl : e_Sn 0 141 (o_newa 0 (e_I 2147483648) 143))
noncomputable def n_0_138 : e_Y := u_push (.inl 2147484704) n_0_141
theorem t_0_138 : e_Sn 0 138 (e_un n_0_138) := u_pushT (s_sipush (n := (1056)) hq_0 (by decide +kernel) rfl ⟨by decide +kernel, by decide +kernel⟩ : e_Sn 0 138 (o_push (.inl 2147484704) 141)) t_0_141
noncomputable def n_0_137 : e_Y := u_ld f_okA f_l0 n_0_138
theorem t_0_137 : e_Sn 0 137 (e_un n_0_137) := u_ldAT f_l0_eq (s_aload (i := .aload_n 0) (len := 1) hq_0 (by decide +kernel) rfl (.inr ⟨0, rfl, rfl, rfl⟩) : e_Sn 0 137 (o_load e_okR 0 138)) t_0_138
noncomputable def n_0_134 : e_Y := u_old (o_putf (e_f1 0 11) e_okR 137) n_0_137
theorem t_0_134 : e_Sn 0 134 (e_un n_0_134) := u_oldT (s_putf (ty0 := ey_0) (ok := e_okR) (C := er_0) (T := et_0) (N := 17) (ref := "Plateroomprinter") (index := 71) (ci := 0) (k := 11) hq_0 ho_0 ⟨rfl, by decide, ei_0, (List.mem_of_getElem? (i := 691) (by decide +kernel)), .inl rfl⟩ eo_0 en_0 e_oksA (.inr ⟨rfl, rfl, rfl⟩) (by decide +kernel) rfl : e_Sn 0 134 (o_putf (e_f1 0 11) e_okR 137)) t_0_137 (e_cg_putf (e_f1 0 11) e_okR)
noncomputable def n_0_132 : e_Y := u_tab (o_newa 0 (e_I 2147483648) 134)
theorem t_0_132 : e_Sn 0 132 (e_un n_0_132) := u_tabT (s_newI (List.mem_of_getElem? (i := 215) (by decide +kernel)) hq_0 (by decide +kernel) rfl : e_Sn 0 132 (o_newa 0 (e_I 2147483648) 134))
noncomputable def n_0_130 : e_Y := u_push (.inl 2147483768) n_0_132
theorem t_0_130 : e_Sn 0 130 (e_un n_0_130) := u_pushT (s_bipush (n := (120)) hq_0 (by decide +kernel) rfl ⟨by decide +kernel, by decide +kernel⟩ : e_Sn 0 130 (o_push (.inl 2147483768) 132)) t_0_132
noncomputable def n_0_129 : e_Y := u_ld f_okA f_l0 n_0_130
theorem t_0_129 : e_Sn 0 129 (e_un n_0_129) := u_ldAT f_l0_eq (s_aload (i := .aload_n 0) (len := 1) hq_0 (by decide +kernel) rfl (.inr ⟨0, rfl, rfl, rfl⟩) : e_Sn 0 129 (o_load e_okR 0 130)) t_0_130
noncomputable def n_0_126 : e_Y := u_old (o_putf (e_f1 0 10) e_okR 129) n_0_129
theorem t_0_126 : e_Sn 0 126 (e_un n_0_126) := u_oldT (s_putf (ty0 := ey_0) (ok := e_okR) (C := er_0) (T := et_0) (N := 17) (ref := "Plateroomprinter") (index := 68) (ci := 0) (k := 10) hq_0 ho_0 ⟨rfl, by decide, ei_0, (List.mem_of_getElem? (i := 690) (by decide +kernel)), .inl rfl⟩ eo_0 en_0 e_oksA (.inr ⟨rfl, rfl, rfl⟩) (by decide +kernel) rfl : e_Sn 0 126 (o_putf (e_f1 0 10) e_okR 129)) t_0_129 (e_cg_putf (e_f1 0 10) e_okR)
noncomputable def n_0_124 : e_Y := u_tab (o_newa 0 (e_I 2147483648) 126)
theorem t_0_124 : e_Sn 0 124 (e_un n_0_124) := u_tabT (s_newI (List.mem_of_getElem? (i := 215) (by decide +kernel)) hq_0 (by decide +kernel) rfl : e_Sn 0 124 (o_newa 0 (e_I 2147483648) 126))
noncomputable def n_0_122 : e_Y := u_push (.inl 2147483768) n_0_124
theorem t_0_122 : e_Sn 0 122 (e_un n_0_122) := u_pushT (s_bipush (n := (120)) hq_0 (by decide +kernel) rfl ⟨by decide +kernel, by decide +kernel⟩ : e_Sn 0 122 (o_push (.inl 2147483768) 124)) t_0_124
noncomputable def n_0_121 : e_Y := u_ld f_okA f_l0 n_0_122
theorem t_0_121 : e_Sn 0 121 (e_un n_0_121) := u_ldAT f_l0_eq (s_aload (i := .aload_n 0) (len := 1) hq_0 (by decide +kernel) rfl (.inr ⟨0, rfl, rfl, rfl⟩) : e_Sn 0 121 (o_load e_okR 0 122)) t_0_122
noncomputable def n_0_118 : e_Y := u_old (o_putf (e_f1 0 9) e_okR 121) n_0_121
theorem t_0_118 : e_Sn 0 118 (e_un n_0_118) := u_oldT (s_putf (ty0 := ey_0) (ok := e_okR) (C := er_0) (T := et_0) (N := 17) (ref := "Plateroomprinter") (index := 65) (ci := 0) (k := 9) hq_0 ho_0 ⟨rfl, by decide, ei_0, (List.mem_of_getElem? (i := 689) (by decide +kernel)), .inl rfl⟩ eo_0 en_0 e_oksA (.inr ⟨rfl, rfl, rfl⟩) (by decide +kernel) rfl : e_Sn 0 118 (o_putf (e_f1 0 9) e_okR 121)) t_0_121 (e_cg_putf (e_f1 0 9) e_okR)
noncomputable def n_0_116 : e_Y := u_tab (o_newa 0 (e_I 2147483648) 118)
theorem t_0_116 : e_Sn 0 116 (e_un n_0_116) := u_tabT (s_newI (List.mem_of_getElem? (i := 215) (by decide +kernel)) hq_0 (by decide +kernel) rfl : e_Sn 0 116 (o_newa 0 (e_I 2147483648) 118))
noncomputable def n_0_114 : e_Y := u_push (.inl 2147483680) n_0_116
theorem t_0_114 : e_Sn 0 114 (e_un n_0_114) := u_pushT (s_bipush (n := (32)) hq_0 (by decide +kernel) rfl ⟨by decide +kernel, by decide +kernel⟩ : e_Sn 0 114 (o_push (.inl 2147483680) 116)) t_0_116
noncomputable def n_0_113 : e_Y := u_ld f_okA f_l0 n_0_114
theorem t_0_113 : e_Sn 0 113 (e_un n_0_113) := u_ldAT f_l0_eq (s_aload (i := .aload_n 0) (len := 1) hq_0 (by decide +kernel) rfl (.inr ⟨0, rfl, rfl, rfl⟩) : e_Sn 0 113 (o_load e_okR 0 114)) t_0_114
noncomputable def n_0_110 : e_Y := u_old (o_putf (e_f1 0 8) e_okR 113) n_0_113
theorem t_0_110 : e_Sn 0 110 (e_un n_0_110) := u_oldT (s_putf (ty0 := ey_0) (ok := e_okR) (C := er_0) (T := et_0) (N := 17) (ref := "Plateroomprinter") (index := 62) (ci := 0) (k := 8) hq_0 ho_0 ⟨rfl, by decide, ei_0, (List.mem_of_getElem? (i := 688) (by decide +kernel)), .inl rfl⟩ eo_0 en_0 e_oksA (.inr ⟨rfl, rfl, rfl⟩) (by decide +kernel) rfl : e_Sn 0 110 (o_putf (e_f1 0 8) e_okR 113)) t_0_113 (e_cg_putf (e_f1 0 8) e_okR)
noncomputable def n_0_108 : e_Y := u_tab (o_newa 0 (e_I 2147483648) 110)
theorem t_0_108 : e_Sn 0 108 (e_un n_0_108) := u_tabT (s_newI (List.mem_of_getElem? (i := 215) (by decide +kernel)) hq_0 (by decide +kernel) rfl : e_Sn 0 108 (o_newa 0 (e_I 2147483648) 110))
noncomputable def n_0_106 : e_Y := u_push (.inl 2147483680) n_0_108
theorem t_0_106 : e_Sn 0 106 (e_un n_0_106) := u_pushT (s_bipush (n := (32)) hq_0 (by decide +kernel) rfl ⟨by decide +kernel, by decide +kernel⟩ : e_Sn 0 106 (o_push (.inl 2147483680) 108)) t_0_108
noncomputable def n_0_105 : e_Y := u_ld f_okA f_l0 n_0_106
theorem t_0_105 : e_Sn 0 105 (e_un n_0_105) := u_ldAT f_l0_eq (s_aload (i := .aload_n 0) (len := 1) hq_0 (by decide +kernel) rfl (.inr ⟨0, rfl, rfl, rfl⟩) : e_Sn 0 105 (o_load e_okR 0 106)) t_0_106
noncomputable def n_0_102 : e_Y := u_old (o_putf (e_f1 0 7) e_okR 105) n_0_105
theorem t_0_102 : e_Sn 0 102 (e_un n_0_102) := u_oldT (s_putf (ty0 := ey_0) (ok := e_okR) (C := er_0) (T := et_0) (N := 17) (ref := "Plateroomprinter") (index := 58) (ci := 0) (k := 7) hq_0 ho_0 ⟨rfl, by decide, ei_0, (List.mem_of_getElem? (i := 687) (by decide +kernel)), .inl rfl⟩ eo_0 en_0 e_oksA (.inr ⟨rfl, rfl, rfl⟩) (by decide +kernel) rfl : e_Sn 0 102 (o_putf (e_f1 0 7) e_okR 105)) t_0_105 (e_cg_putf (e_f1 0 7) e_okR)
noncomputable def n_0_100 : e_Y := u_tab (o_newa 0 (e_I 2147483648) 102)
theorem t_0_100 : e_Sn 0 100 (e_un n_0_100) := u_tabT (s_newI (List.mem_of_getElem? (i := 215) (by decide +kernel)) hq_0 (by decide +kernel) rfl : e_Sn 0 100 (o_newa 0 (e_I 2147483648) 102))
noncomputable def n_0_98 : e_Y := u_push (.inl 2147483680) n_0_100
theorem t_0_98 : e_Sn 0 98 (e_un n_0_98) := u_pushT (s_bipush (n := (32)) hq_0 (by decide +kernel) rfl ⟨by decide +kernel, by decide +kernel⟩ : e_Sn 0 98 (o_push (.inl 2147483680) 100)) t_0_100
noncomputable def n_0_97 : e_Y := u_ld f_okA f_l0 n_0_98
theorem t_0_97 : e_Sn 0 97 (e_un n_0_97) := u_ldAT f_l0_eq (s_aload (i := .aload_n 0) (len := 1) hq_0 (by decide +kernel) rfl (.inr ⟨0, rfl, rfl, rfl⟩) : e_Sn 0 97 (o_load e_okR 0 98)) t_0_98
noncomputable def n_0_94 : e_Y := u_old (o_putf (e_f1 0 6) e_okR 97) n_0_97
theorem t_0_94 : e_Sn 0 94 (e_un n_0_94) := u_oldT (s_putf (ty0 := ey_0) (ok := e_okR) (C := er_0) (T := et_0) (N := 17) (ref := "Plateroomprinter") (index := 54) (ci := 0) (k := 6) hq_0 ho_0 ⟨rfl, by decide, ei_0, (List.mem_of_getElem? (i := 686) (by decide +kernel)), .inl rfl⟩ eo_0 en_0 e_oksR (.inr ⟨rfl, rfl, rfl⟩) (by decide +kernel) rfl : e_Sn 0 94 (o_putf (e_f1 0 6) e_okR 97)) t_0_97 (e_cg_putf (e_f1 0 6) e_okR)
noncomputable def n_0_91 : e_Y := u_tab (o_callI 47 1 1 94)
theorem t_0_91 : e_Sn 0 91 (e_un n_0_91) := u_tabT (s_callIN (host := "Plateroomprinter") (index := 53) hq_0 ho_0 hy_47 hp_47 hc_47 hi_47 hd_47 (List.mem_of_getElem? (i := 679) (by decide +kernel)) rfl rfl hs_47 (by decide +kernel) rfl : e_Sn 0 91 (o_callI 47 1 1 94))
noncomputable def n_0_90 : e_Y := u_old (o_dup 91) n_0_91
theorem t_0_90 : e_Sn 0 90 (e_un n_0_90) := u_oldT (s_dup hq_0 (by decide +kernel) rfl : e_Sn 0 90 (o_dup 91)) t_0_91 e_cg_dup
noncomputable def n_0_87 : e_Y := u_tab (o_new 9 1 ef_9 90)
theorem t_0_87 : e_Sn 0 87 (e_un n_0_87) := u_tabT (s_new (index := 51) (ci := 9) (N := 1) (C := er_9) (T := et_9) (ty0 := ey_9) (fv := eg_9) hq_0 ho_0 rfl ei_9 eo_9 (List.mem_of_getElem? (i := 678) (by decide +kernel)) (List.mem_of_getElem? (i := 376) (by decide +kernel)) (List.mem_of_getElem? (i := 146) (by decide +kernel)) eh_9 rfl (e_newrel ek_9) (by decide +kernel) rfl : e_Sn 0 87 (o_new 9 1 ef_9 90))
noncomputable def n_0_86 : e_Y := u_ld f_okA f_l0 n_0_87
theorem t_0_86 : e_Sn 0 86 (e_un n_0_86) := u_ldAT f_l0_eq (s_aload (i := .aload_n 0) (len := 1) hq_0 (by decide +kernel) rfl (.inr ⟨0, rfl, rfl, rfl⟩) : e_Sn 0 86 (o_load e_okR 0 87)) t_0_87
noncomputable def n_0_83 : e_Y := u_old (o_putf (e_f1 0 5) e_okR 86) n_0_86
theorem t_0_83 : e_Sn 0 83 (e_un n_0_83) := u_oldT (s_putf (ty0 := ey_0) (ok := e_okR) (C := er_0) (T := et_0) (N := 17) (ref := "Plateroomprinter") (index := 47) (ci := 0) (k := 5) hq_0 ho_0 ⟨rfl, by decide, ei_0, (List.mem_of_getElem? (i := 685) (by decide +kernel)), .inl rfl⟩ eo_0 en_0 e_oksR (.inr ⟨rfl, rfl, rfl⟩) (by decide +kernel) rfl : e_Sn 0 83 (o_putf (e_f1 0 5) e_okR 86)) t_0_86 (e_cg_putf (e_f1 0 5) e_okR)
noncomputable def n_0_80 : e_Y := u_tab (o_callI 12 3 3 83)
theorem t_0_80 : e_Sn 0 80 (e_un n_0_80) := u_tabT (s_callI (index := 44) hq_0 ho_0 hy_12 hp_12 hc_12 hi_12 hd_12 (List.mem_of_getElem? (i := 612) (by decide +kernel)) rfl rfl hs_12 (by decide +kernel) rfl : e_Sn 0 80 (o_callI 12 3 3 83))
noncomputable def n_0_77 : e_Y := u_getf 0 0 (u_old (o_getf (e_f1 0 0) 80) n_0_80) n_0_80
theorem t_0_77 : e_Sn 0 77 (e_un n_0_77) := u_getfT (s_getf (C := er_0) (T := et_0) (N := 17) (ref := "Plateroomprinter") (index := 10) (ci := 0) (k := 0) hq_0 ho_0 ⟨rfl, by decide, ei_0, (List.mem_of_getElem? (i := 680) (by decide +kernel)), .inl rfl⟩ (by decide +kernel) rfl : e_Sn 0 77 (o_getf (e_f1 0 0) 80)) t_0_80
noncomputable def n_0_76 : e_Y := u_ld f_okA f_l0 n_0_77
theorem t_0_76 : e_Sn 0 76 (e_un n_0_76) := u_ldAT f_l0_eq (s_aload (i := .aload_n 0) (len := 1) hq_0 (by decide +kernel) rfl (.inr ⟨0, rfl, rfl, rfl⟩) : e_Sn 0 76 (o_load e_okR 0 77)) t_0_77
noncomputable def n_0_73 : e_Y := u_getf 0 1 (u_old (o_getf (e_f1 0 1) 76) n_0_76) n_0_76
theorem t_0_73 : e_Sn 0 73 (e_un n_0_73) := u_getfT (s_getf (C := er_0) (T := et_0) (N := 17) (ref := "Plateroomprinter") (index := 19) (ci := 0) (k := 1) hq_0 ho_0 ⟨rfl, by decide, ei_0, (List.mem_of_getElem? (i := 681) (by decide +kernel)), .inl rfl⟩ (by decide +kernel) rfl : e_Sn 0 73 (o_getf (e_f1 0 1) 76)) t_0_76
noncomputable def n_0_72 : e_Y := u_ld f_okA f_l0 n_0_73
theorem t_0_72 : e_Sn 0 72 (e_un n_0_72) := u_ldAT f_l0_eq (s_aload (i := .aload_n 0) (len := 1) hq_0 (by decide +kernel) rfl (.inr ⟨0, rfl, rfl, rfl⟩) : e_Sn 0 72 (o_load e_okR 0 73)) t_0_73
noncomputable def n_0_71 : e_Y := u_old (o_dup 72) n_0_72
theorem t_0_71 : e_Sn 0 71 (e_un n_0_71) := u_oldT (s_dup hq_0 (by decide +kernel) rfl : e_Sn 0 71 (o_dup 72)) t_0_72 e_cg_dup
noncomputable def n_0_68 : e_Y := u_tab (o_new 2 19 ef_2 71)
theorem t_0_68 : e_Sn 0 68 (e_un n_0_68) := u_tabT (s_new (index := 42) (ci := 2) (N := 19) (C := er_2) (T := et_2) (ty0 := ey_2) (fv := eg_2) hq_0 ho_0 rfl ei_2 eo_2 (List.mem_of_getElem? (i := 610) (by decide +kernel)) (List.mem_of_getElem? (i := 611) (by decide +kernel)) (List.mem_of_getElem? (i := 150) (by decide +kernel)) eh_2 rfl (e_newrel ek_2) (by decide +kernel) rfl : e_Sn 0 68 (o_new 2 19 ef_2 71))
noncomputable def n_0_67 : e_Y := u_ld f_okA f_l0 n_0_68
theorem t_0_67 : e_Sn 0 67 (e_un n_0_67) := u_ldAT f_l0_eq (s_aload (i := .aload_n 0) (len := 1) hq_0 (by decide +kernel) rfl (.inr ⟨0, rfl, rfl, rfl⟩) : e_Sn 0 67 (o_load e_okR 0 68)) t_0_68
noncomputable def n_0_64 : e_Y := u_old (o_putf (e_f1 0 4) e_okR 67) n_0_67
theorem t_0_64 : e_Sn 0 64 (e_un n_0_64) := u_oldT (s_putf (ty0 := ey_0) (ok := e_okR) (C := er_0) (T := et_0) (N := 17) (ref := "Plateroomprinter") (index := 38) (ci := 0) (k := 4) hq_0 ho_0 ⟨rfl, by decide, ei_0, (List.mem_of_getElem? (i := 684) (by decide +kernel)), .inl rfl⟩ eo_0 en_0 e_oksR (.inr ⟨rfl, rfl, rfl⟩) (by decide +kernel) rfl : e_Sn 0 64 (o_putf (e_f1 0 4) e_okR 67)) t_0_67 (e_cg_putf (e_f1 0 4) e_okR)
noncomputable def n_0_61 : e_Y := u_tab (o_callI 39 3 3 64)
theorem t_0_61 : e_Sn 0 61 (e_un n_0_61) := u_tabT (s_callI (index := 35) hq_0 ho_0 hy_39 hp_39 hc_39 hi_39 hd_39 (List.mem_of_getElem? (i := 552) (by decide +kernel)) rfl rfl hs_39 (by decide +kernel) rfl : e_Sn 0 61 (o_callI 39 3 3 64))
noncomputable def n_0_58 : e_Y := u_getf 0 3 (u_old (o_getf (e_f1 0 3) 61) n_0_61) n_0_61
theorem t_0_58 : e_Sn 0 58 (e_un n_0_58) := u_getfT (s_getf (C := er_0) (T := et_0) (N := 17) (ref := "Plateroomprinter") (index := 29) (ci := 0) (k := 3) hq_0 ho_0 ⟨rfl, by decide, ei_0, (List.mem_of_getElem? (i := 683) (by decide +kernel)), .inl rfl⟩ (by decide +kernel) rfl : e_Sn 0 58 (o_getf (e_f1 0 3) 61)) t_0_61
noncomputable def n_0_57 : e_Y := u_ld f_okA f_l0 n_0_58
theorem t_0_57 : e_Sn 0 57 (e_un n_0_57) := u_ldAT f_l0_eq (s_aload (i := .aload_n 0) (len := 1) hq_0 (by decide +kernel) rfl (.inr ⟨0, rfl, rfl, rfl⟩) : e_Sn 0 57 (o_load e_okR 0 58)) t_0_58
noncomputable def n_0_54 : e_Y := u_getf 0 1 (u_old (o_getf (e_f1 0 1) 57) n_0_57) n_0_57
theorem t_0_54 : e_Sn 0 54 (e_un n_0_54) := u_getfT (s_getf (C := er_0) (T := et_0) (N := 17) (ref := "Plateroomprinter") (index := 19) (ci := 0) (k := 1) hq_0 ho_0 ⟨rfl, by decide, ei_0, (List.mem_of_getElem? (i := 681) (by decide +kernel)), .inl rfl⟩ (by decide +kernel) rfl : e_Sn 0 54 (o_getf (e_f1 0 1) 57)) t_0_57
noncomputable def n_0_53 : e_Y := u_ld f_okA f_l0 n_0_54
theorem t_0_53 : e_Sn 0 53 (e_un n_0_53) := u_ldAT f_l0_eq (s_aload (i := .aload_n 0) (len := 1) hq_0 (by decide +kernel) rfl (.inr ⟨0, rfl, rfl, rfl⟩) : e_Sn 0 53 (o_load e_okR 0 54)) t_0_54
noncomputable def n_0_52 : e_Y := u_old (o_dup 53) n_0_53
theorem t_0_52 : e_Sn 0 52 (e_un n_0_52) := u_oldT (s_dup hq_0 (by decide +kernel) rfl : e_Sn 0 52 (o_dup 53)) t_0_53 e_cg_dup
noncomputable def n_0_49 : e_Y := u_tab (o_new 6 17 ef_6 52)
theorem t_0_49 : e_Sn 0 49 (e_un n_0_49) := u_tabT (s_new (index := 33) (ci := 6) (N := 17) (C := er_6) (T := et_6) (ty0 := ey_6) (fv := eg_6) hq_0 ho_0 rfl ei_6 eo_6 (List.mem_of_getElem? (i := 550) (by decide +kernel)) (List.mem_of_getElem? (i := 551) (by decide +kernel)) (List.mem_of_getElem? (i := 149) (by decide +kernel)) eh_6 rfl (e_newrel ek_6) (by decide +kernel) rfl : e_Sn 0 49 (o_new 6 17 ef_6 52))
noncomputable def n_0_48 : e_Y := u_ld f_okA f_l0 n_0_49
theorem t_0_48 : e_Sn 0 48 (e_un n_0_48) := u_ldAT f_l0_eq (s_aload (i := .aload_n 0) (len := 1) hq_0 (by decide +kernel) rfl (.inr ⟨0, rfl, rfl, rfl⟩) : e_Sn 0 48 (o_load e_okR 0 49)) t_0_49
noncomputable def n_0_45 : e_Y := u_old (o_putf (e_f1 0 3) e_okR 48) n_0_48
theorem t_0_45 : e_Sn 0 45 (e_un n_0_45) := u_oldT (s_putf (ty0 := ey_0) (ok := e_okR) (C := er_0) (T := et_0) (N := 17) (ref := "Plateroomprinter") (index := 29) (ci := 0) (k := 3) hq_0 ho_0 ⟨rfl, by decide, ei_0, (List.mem_of_getElem? (i := 683) (by decide +kernel)), .inl rfl⟩ eo_0 en_0 e_oksR (.inr ⟨rfl, rfl, rfl⟩) (by decide +kernel) rfl : e_Sn 0 45 (o_putf (e_f1 0 3) e_okR 48)) t_0_48 (e_cg_putf (e_f1 0 3) e_okR)
noncomputable def n_0_42 : e_Y := u_tab (o_callI 46 1 1 45)
theorem t_0_42 : e_Sn 0 42 (e_un n_0_42) := u_tabT (s_callIN (host := "Plateroomprinter") (index := 28) hq_0 ho_0 hy_46 hp_46 hc_46 hi_46 hd_46 (List.mem_of_getElem? (i := 536) (by decide +kernel)) rfl rfl hs_46 (by decide +kernel) rfl : e_Sn 0 42 (o_callI 46 1 1 45))
noncomputable def n_0_41 : e_Y := u_old (o_dup 42) n_0_42
theorem t_0_41 : e_Sn 0 41 (e_un n_0_41) := u_oldT (s_dup hq_0 (by decide +kernel) rfl : e_Sn 0 41 (o_dup 42)) t_0_42 e_cg_dup
noncomputable def n_0_38 : e_Y := u_tab (o_new 8 3 ef_8 41)
theorem t_0_38 : e_Sn 0 38 (e_un n_0_38) := u_tabT (s_new (index := 26) (ci := 8) (N := 3) (C := er_8) (T := et_8) (ty0 := ey_8) (fv := eg_8) hq_0 ho_0 rfl ei_8 eo_8 (List.mem_of_getElem? (i := 534) (by decide +kernel)) (List.mem_of_getElem? (i := 535) (by decide +kernel)) (List.mem_of_getElem? (i := 148) (by decide +kernel)) eh_8 rfl (e_newrel ek_8) (by decide +kernel) rfl : e_Sn 0 38 (o_new 8 3 ef_8 41))
noncomputable def n_0_37 : e_Y := u_ld f_okA f_l0 n_0_38
theorem t_0_37 : e_Sn 0 37 (e_un n_0_37) := u_ldAT f_l0_eq (s_aload (i := .aload_n 0) (len := 1) hq_0 (by decide +kernel) rfl (.inr ⟨0, rfl, rfl, rfl⟩) : e_Sn 0 37 (o_load e_okR 0 38)) t_0_38
noncomputable def n_0_34 : e_Y := u_old (o_putf (e_f1 0 2) e_okR 37) n_0_37
theorem t_0_34 : e_Sn 0 34 (e_un n_0_34) := u_oldT (s_putf (ty0 := ey_0) (ok := e_okR) (C := er_0) (T := et_0) (N := 17) (ref := "Plateroomprinter") (index := 23) (ci := 0) (k := 2) hq_0 ho_0 ⟨rfl, by decide, ei_0, (List.mem_of_getElem? (i := 682) (by decide +kernel)), .inl rfl⟩ eo_0 en_0 e_oksR (.inr ⟨rfl, rfl, rfl⟩) (by decide +kernel) rfl : e_Sn 0 34 (o_putf (e_f1 0 2) e_okR 37)) t_0_37 (e_cg_putf (e_f1 0 2) e_okR)
noncomputable def n_0_31 : e_Y := u_tab (o_callI 55 2 1 34)
theorem t_0_31 : e_Sn 0 31 (e_un n_0_31) := u_tabT (s_callI (index := 18) hq_0 ho_0 hy_55 hp_55 hc_55 hi_55 hd_55 (List.mem_of_getElem? (i := 218) (by decide +kernel)) rfl rfl hs_55 (by decide +kernel) rfl : e_Sn 0 31 (o_callI 55 2 1 34))
noncomputable def n_0_30 : e_Y := u_old (o_dup 31) n_0_31
theorem t_0_30 : e_Sn 0 30 (e_un n_0_30) := u_oldT (s_dup hq_0 (by decide +kernel) rfl : e_Sn 0 30 (o_dup 31)) t_0_31 e_cg_dup
noncomputable def n_0_27 : e_Y := u_tab (o_new 11 15 ef_11 30)
theorem t_0_27 : e_Sn 0 27 (e_un n_0_27) := u_tabT (s_new (index := 16) (ci := 11) (N := 15) (C := er_11) (T := et_11) (ty0 := ey_11) (fv := eg_11) hq_0 ho_0 rfl ei_11 eo_11 (List.mem_of_getElem? (i := 216) (by decide +kernel)) (List.mem_of_getElem? (i := 217) (by decide +kernel)) (List.mem_of_getElem? (i := 140) (by decide +kernel)) eh_11 rfl (e_newrel ek_11) (by decide +kernel) rfl : e_Sn 0 27 (o_new 11 15 ef_11 30))
noncomputable def n_0_26 : e_Y := u_ld f_okA f_l0 n_0_27
theorem t_0_26 : e_Sn 0 26 (e_un n_0_26) := u_ldAT f_l0_eq (s_aload (i := .aload_n 0) (len := 1) hq_0 (by decide +kernel) rfl (.inr ⟨0, rfl, rfl, rfl⟩) : e_Sn 0 26 (o_load e_okR 0 27)) t_0_27
noncomputable def n_0_23 : e_Y := u_old (o_putf (e_f1 0 1) e_okR 26) n_0_26
theorem t_0_23 : e_Sn 0 23 (e_un n_0_23) := u_oldT (s_putf (ty0 := ey_0) (ok := e_okR) (C := er_0) (T := et_0) (N := 17) (ref := "Plateroomprinter") (index := 19) (ci := 0) (k := 1) hq_0 ho_0 ⟨rfl, by decide, ei_0, (List.mem_of_getElem? (i := 681) (by decide +kernel)), .inl rfl⟩ eo_0 en_0 e_oksR (.inr ⟨rfl, rfl, rfl⟩) (by decide +kernel) rfl : e_Sn 0 23 (o_putf (e_f1 0 1) e_okR 26)) t_0_26 (e_cg_putf (e_f1 0 1) e_okR)
noncomputable def n_0_20 : e_Y := u_tab (o_callI 55 2 1 23)
theorem t_0_20 : e_Sn 0 20 (e_un n_0_20) := u_tabT (s_callI (index := 18) hq_0 ho_0 hy_55 hp_55 hc_55 hi_55 hd_55 (List.mem_of_getElem? (i := 218) (by decide +kernel)) rfl rfl hs_55 (by decide +kernel) rfl : e_Sn 0 20 (o_callI 55 2 1 23))
noncomputable def n_0_19 : e_Y := u_old (o_dup 20) n_0_20
theorem t_0_19 : e_Sn 0 19 (e_un n_0_19) := u_oldT (s_dup hq_0 (by decide +kernel) rfl : e_Sn 0 19 (o_dup 20)) t_0_20 e_cg_dup
noncomputable def n_0_16 : e_Y := u_tab (o_new 11 15 ef_11 19)
theorem t_0_16 : e_Sn 0 16 (e_un n_0_16) := u_tabT (s_new (index := 16) (ci := 11) (N := 15) (C := er_11) (T := et_11) (ty0 := ey_11) (fv := eg_11) hq_0 ho_0 rfl ei_11 eo_11 (List.mem_of_getElem? (i := 216) (by decide +kernel)) (List.mem_of_getElem? (i := 217) (by decide +kernel)) (List.mem_of_getElem? (i := 140) (by decide +kernel)) eh_11 rfl (e_newrel ek_11) (by decide +kernel) rfl : e_Sn 0 16 (o_new 11 15 ef_11 19))
noncomputable def n_0_15 : e_Y := u_ld f_okA f_l0 n_0_16
theorem t_0_15 : e_Sn 0 15 (e_un n_0_15) := u_ldAT f_l0_eq (s_aload (i := .aload_n 0) (len := 1) hq_0 (by decide +kernel) rfl (.inr ⟨0, rfl, rfl, rfl⟩) : e_Sn 0 15 (o_load e_okR 0 16)) t_0_16
noncomputable def n_0_12 : e_Y := u_old (o_putf (e_f1 0 0) e_okR 15) n_0_15
theorem t_0_12 : e_Sn 0 12 (e_un n_0_12) := u_oldT (s_putf (ty0 := ey_0) (ok := e_okR) (C := er_0) (T := et_0) (N := 17) (ref := "Plateroomprinter") (index := 10) (ci := 0) (k := 0) hq_0 ho_0 ⟨rfl, by decide, ei_0, (List.mem_of_getElem? (i := 680) (by decide +kernel)), .inl rfl⟩ eo_0 en_0 e_oksR (.inr ⟨rfl, rfl, rfl⟩) (by decide +kernel) rfl : e_Sn 0 12 (o_putf (e_f1 0 0) e_okR 15)) t_0_15 (e_cg_putf (e_f1 0 0) e_okR)
noncomputable def n_0_9 : e_Y := u_tab (o_callI 6 1 1 12)
theorem t_0_9 : e_Sn 0 9 (e_un n_0_9) := u_tabT (s_callIN (host := "Plateroomprinter") (index := 9) hq_0 ho_0 hy_6 hp_6 hc_6 hi_6 hd_6 (List.mem_of_getElem? (i := 194) (by decide +kernel)) rfl rfl hs_6 (by decide +kernel) rfl : e_Sn 0 9 (o_callI 6 1 1 12))
noncomputable def n_0_8 : e_Y := u_old (o_dup 9) n_0_9
theorem t_0_8 : e_Sn 0 8 (e_un n_0_8) := u_oldT (s_dup hq_0 (by decide +kernel) rfl : e_Sn 0 8 (o_dup 9)) t_0_9 e_cg_dup
noncomputable def n_0_5 : e_Y := u_tab (o_new 1 4 ef_1 8)
theorem t_0_5 : e_Sn 0 5 (e_un n_0_5) := u_tabT (s_new (index := 7) (ci := 1) (N := 4) (C := er_1) (T := et_1) (ty0 := ey_1) (fv := eg_1) hq_0 ho_0 rfl ei_1 eo_1 (List.mem_of_getElem? (i := 192) (by decide +kernel)) (List.mem_of_getElem? (i := 193) (by decide +kernel)) (List.mem_of_getElem? (i := 139) (by decide +kernel)) eh_1 rfl (e_newrel ek_1) (by decide +kernel) rfl : e_Sn 0 5 (o_new 1 4 ef_1 8))
noncomputable def n_0_4 : e_Y := u_ld f_okA f_l0 n_0_5
theorem t_0_4 : e_Sn 0 4 (e_un n_0_4) := u_ldAT f_l0_eq (s_aload (i := .aload_n 0) (len := 1) hq_0 (by decide +kernel) rfl (.inr ⟨0, rfl, rfl, rfl⟩) : e_Sn 0 4 (o_load e_okR 0 5)) t_0_5
noncomputable def n_0_1 : e_Y := u_tab (o_oinit 4)
theorem t_0_1 : e_Sn 0 1 (e_un n_0_1) := u_tabT (s_oinit (idx := 1) hq_0 ho_0 (List.mem_of_getElem? (i := 189) (by decide +kernel)) (List.mem_of_getElem? (i := 190) (by decide +kernel)) (List.mem_of_getElem? (i := 191) (by decide +kernel)) (by decide +kernel) rfl : e_Sn 0 1 (o_oinit 4))
noncomputable def n_0_0 : e_Y := u_ld f_okA f_l0 n_0_1
theorem t_0_0 : e_Sn 0 0 (e_un n_0_0) := u_ldAT f_l0_eq (s_aload (i := .aload_n 0) (len := 1) hq_0 (by decide +kernel) rfl (.inr ⟨0, rfl, rfl, rfl⟩) : e_Sn 0 0 (o_load e_okR 0 1)) t_0_1
noncomputable def e_tb_0 : e_X := (e_br 64 (e_br 23 (e_br 8 (e_br 4 (e_lf 0 (e_un n_0_0)) (e_lf 4 (e_un n_0_4))) (e_br 12 (e_lf 8 (e_un n_0_8)) (e_br 19 (e_lf 12 (e_un n_0_12)) (e_lf 19 (e_un n_0_19))))) (e_br 41 (e_br 30 (e_lf 23 (e_un n_0_23)) (e_br 34 (e_lf 30 (e_un n_0_30)) (e_lf 34 (e_un n_0_34)))) (e_br 45 (e_lf 41 (e_un n_0_41)) (e_br 52 (e_lf 45 (e_un n_0_45)) (e_lf 52 (e_un n_0_52)))))) (e_br 102 (e_br 83 (e_br 71 (e_lf 64 (e_un n_0_64)) (e_lf 71 (e_un n_0_71))) (e_br 90 (e_lf 83 (e_un n_0_83)) (e_br 94 (e_lf 90 (e_un n_0_90)) (e_lf 94 (e_un n_0_94))))) (e_br 126 (e_br 110 (e_lf 102 (e_un n_0_102)) (e_br 118 (e_lf 110 (e_un n_0_110)) (e_lf 118 (e_un n_0_118)))) (e_br 134 (e_lf 126 (e_un n_0_126)) (e_br 143 (e_lf 134 (e_un n_0_134)) (e_lf 143 (e_un n_0_143)))))))
theorem e_tk_0 : e_Tb 0 e_tb_0 := (e_brT (e_brT (e_brT (e_brT (e_lfT t_0_0) (e_lfT t_0_4)) (e_brT (e_lfT t_0_8) (e_brT (e_lfT t_0_12) (e_lfT t_0_19)))) (e_brT (e_brT (e_lfT t_0_23) (e_brT (e_lfT t_0_30) (e_lfT t_0_34))) (e_brT (e_lfT t_0_41) (e_brT (e_lfT t_0_45) (e_lfT t_0_52))))) (e_brT (e_brT (e_brT (e_lfT t_0_64) (e_lfT t_0_71)) (e_brT (e_lfT t_0_83) (e_brT (e_lfT t_0_90) (e_lfT t_0_94)))) (e_brT (e_brT (e_lfT t_0_102) (e_brT (e_lfT t_0_110) (e_lfT t_0_118))) (e_brT (e_lfT t_0_126) (e_brT (e_lfT t_0_134) (e_lfT t_0_143))))))
theorem hq_2 : (e_ml[2]?).map (·.2.1) = some prog_1_method_10_code := rfl
theorem ho_2 : (e_ml[2]?).map (·.1.cls) = some "Plateroomprinter" := rfl
theorem hr_2 : (e_ml[2]?).map (·.2.2.2) = some (some .boolean) := rfl
noncomputable def n_2_101 : e_Y := u_tab (o_ret e_okZ)
theorem t_2_101 : e_Sn 2 101 (e_un n_2_101) := u_tabT (s_zret hq_2 hr_2 (by decide +kernel) : e_Sn 2 101 (o_ret e_okZ))
noncomputable def n_2_97 : e_Y := n_2_101
theorem t_2_97 : e_Sn 2 97 (e_un n_2_97) := u_gotoT (s_goto (off := (4)) hq_2 (by decide +kernel) rfl : e_Sn 2 97 (o_goto 101)) t_2_101
noncomputable def n_2_96 : e_Y := u_push (.inl 2147483649) n_2_97
theorem t_2_96 : e_Sn 2 96 (e_un n_2_96) := u_pushT (s_iconst (n := (1)) hq_2 (by decide +kernel) rfl ⟨by decide +kernel, by decide +kernel⟩ : e_Sn 2 96 (o_push (.inl 2147483649) 97)) t_2_97
noncomputable def n_2_93 : e_Y := u_if y_ne0 (u_old2 (o_ifeq 96 100) 96 n_2_96 (u_at 100)) n_2_96 (u_at 100)
theorem t_2_93 : e_Sn 2 93 (e_un n_2_93) := u_ifeqT rfl (s_ifne (off := (7)) hq_2 (by decide +kernel) rfl rfl : e_Sn 2 93 (o_ifeq 96 100)) t_2_96 u_atT
noncomputable def n_2_92 : e_Y := u_ld f_okI f_l1 n_2_93
theorem t_2_92 : e_Sn 2 92 (e_un n_2_92) := u_ldIT f_l1_eq (s_iload (i := .iload_n 1) (len := 1) hq_2 (by decide +kernel) rfl (.inr ⟨1, rfl, rfl, rfl⟩) : e_Sn 2 92 (o_load e_okI 1 93)) t_2_93
noncomputable def n_2_75 : e_Y := u_tab (o_ret e_okZ)
theorem t_2_75 : e_Sn 2 75 (e_un n_2_75) := u_tabT (s_zret hq_2 hr_2 (by decide +kernel) : e_Sn 2 75 (o_ret e_okZ))
noncomputable def n_2_71 : e_Y := n_2_75
theorem t_2_71 : e_Sn 2 71 (e_un n_2_71) := u_gotoT (s_goto (off := (4)) hq_2 (by decide +kernel) rfl : e_Sn 2 71 (o_goto 75)) t_2_75
noncomputable def n_2_70 : e_Y := u_push (.inl 2147483649) n_2_71
theorem t_2_70 : e_Sn 2 70 (e_un n_2_70) := u_pushT (s_iconst (n := (1)) hq_2 (by decide +kernel) rfl ⟨by decide +kernel, by decide +kernel⟩ : e_Sn 2 70 (o_push (.inl 2147483649) 71)) t_2_71
noncomputable def n_2_67 : e_Y := u_jmp y_ge (u_old2 (o_clt 70 74) 70 n_2_70 (u_at 74)) n_2_70 (u_at 74)
theorem t_2_67 : e_Sn 2 67 (e_un n_2_67) := u_cltT rfl (s_cge (off := (7)) hq_2 (by decide +kernel) rfl rfl : e_Sn 2 67 (o_clt 70 74)) t_2_70 u_atT
noncomputable def n_2_65 : e_Y := u_push (.inl 2147483701) n_2_67
theorem t_2_65 : e_Sn 2 65 (e_un n_2_65) := u_pushT (s_bipush (n := (53)) hq_2 (by decide +kernel) rfl ⟨by decide +kernel, by decide +kernel⟩ : e_Sn 2 65 (o_push (.inl 2147483701) 67)) t_2_67
noncomputable def n_2_64 : e_Y := u_ld f_okI f_l1 n_2_65
theorem t_2_64 : e_Sn 2 64 (e_un n_2_64) := u_ldIT f_l1_eq (s_iload (i := .iload_n 1) (len := 1) hq_2 (by decide +kernel) rfl (.inr ⟨1, rfl, rfl, rfl⟩) : e_Sn 2 64 (o_load e_okI 1 65)) t_2_65
noncomputable def n_2_61 : e_Y := u_if y_ge0 (u_old2 (o_iflt 74 64) 74 (u_at 74) n_2_64) (u_at 74) n_2_64
theorem t_2_61 : e_Sn 2 61 (e_un n_2_61) := u_ifltT rfl (s_iflt (off := (13)) hq_2 (by decide +kernel) rfl rfl : e_Sn 2 61 (o_iflt 74 64)) u_atT t_2_64
noncomputable def n_2_60 : e_Y := u_ld f_okI f_l1 n_2_61
theorem t_2_60 : e_Sn 2 60 (e_un n_2_60) := u_ldIT f_l1_eq (s_iload (i := .iload_n 1) (len := 1) hq_2 (by decide +kernel) rfl (.inr ⟨1, rfl, rfl, rfl⟩) : e_Sn 2 60 (o_load e_okI 1 61)) t_2_61
noncomputable def n_2_59 : e_Y := u_tab (o_ret e_okZ)
theorem t_2_59 : e_Sn 2 59 (e_un n_2_59) := u_tabT (s_zret hq_2 hr_2 (by decide +kernel) : e_Sn 2 59 (o_ret e_okZ))
noncomputable def n_2_55 : e_Y := n_2_59
theorem t_2_55 : e_Sn 2 55 (e_un n_2_55) := u_gotoT (s_goto (off := (4)) hq_2 (by decide +kernel) rfl : e_Sn 2 55 (o_goto 59)) t_2_59
noncomputable def n_2_54 : e_Y := u_push (.inl 2147483649) n_2_55
theorem t_2_54 : e_Sn 2 54 (e_un n_2_54) := u_pushT (s_iconst (n := (1)) hq_2 (by decide +kernel) rfl ⟨by decide +kernel, by decide +kernel⟩ : e_Sn 2 54 (o_push (.inl 2147483649) 55)) t_2_55
noncomputable def n_2_51 : e_Y := u_jmp y_le (u_old2 (o_cgt 58 54) 58 (u_at 58) n_2_54) (u_at 58) n_2_54
theorem t_2_51 : e_Sn 2 51 (e_un n_2_51) := u_cgtT rfl (s_cgt (off := (7)) hq_2 (by decide +kernel) rfl rfl : e_Sn 2 51 (o_cgt 58 54)) u_atT t_2_54
noncomputable def n_2_48 : e_Y := u_push (.inl 2147493647) n_2_51
theorem t_2_48 : e_Sn 2 48 (e_un n_2_48) := u_pushT (s_sipush (n := (9999)) hq_2 (by decide +kernel) rfl ⟨by decide +kernel, by decide +kernel⟩ : e_Sn 2 48 (o_push (.inl 2147493647) 51)) t_2_51
noncomputable def n_2_47 : e_Y := u_ld f_okI f_l1 n_2_48
theorem t_2_47 : e_Sn 2 47 (e_un n_2_47) := u_ldIT f_l1_eq (s_iload (i := .iload_n 1) (len := 1) hq_2 (by decide +kernel) rfl (.inr ⟨1, rfl, rfl, rfl⟩) : e_Sn 2 47 (o_load e_okI 1 48)) t_2_48
noncomputable def n_2_44 : e_Y := u_jmp y_ge (u_old2 (o_clt 58 47) 58 (u_at 58) n_2_47) (u_at 58) n_2_47
theorem t_2_44 : e_Sn 2 44 (e_un n_2_44) := u_cltT rfl (s_clt (off := (14)) hq_2 (by decide +kernel) rfl rfl : e_Sn 2 44 (o_clt 58 47)) u_atT t_2_47
noncomputable def n_2_41 : e_Y := u_push (.inl 2147473649) n_2_44
theorem t_2_41 : e_Sn 2 41 (e_un n_2_41) := u_pushT (s_sipush (n := (-9999)) hq_2 (by decide +kernel) rfl ⟨by decide +kernel, by decide +kernel⟩ : e_Sn 2 41 (o_push (.inl 2147473649) 44)) t_2_44
noncomputable def n_2_40 : e_Y := u_ld f_okI f_l1 n_2_41
theorem t_2_40 : e_Sn 2 40 (e_un n_2_40) := u_ldIT f_l1_eq (s_iload (i := .iload_n 1) (len := 1) hq_2 (by decide +kernel) rfl (.inr ⟨1, rfl, rfl, rfl⟩) : e_Sn 2 40 (o_load e_okI 1 41)) t_2_41
noncomputable def n_2_1 : e_Y := u_tab (o_switch 2147483648 [40, 60, 76, 76, 92, 92] 102)
theorem t_2_1 : e_Sn 2 1 (e_un n_2_1) := u_tabT (s_switch (dflt := (101)) (low := (0)) (hi := (5)) (offs := #[(39), (59), (75), (75), (91), (91)]) (len := 39) hq_2 (by decide +kernel) rfl rfl rfl rfl : e_Sn 2 1 (o_switch 2147483648 [40, 60, 76, 76, 92, 92] 102))
noncomputable def n_2_0 : e_Y := u_ld f_okI f_l0 n_2_1
theorem t_2_0 : e_Sn 2 0 (e_un n_2_0) := u_ldIT f_l0_eq (s_iload (i := .iload_n 0) (len := 1) hq_2 (by decide +kernel) rfl (.inr ⟨0, rfl, rfl, rfl⟩) : e_Sn 2 0 (o_load e_okI 0 1)) t_2_1
noncomputable def e_tb_2 : e_X := (e_br 60 (e_br 40 (e_lf 0 (e_un n_2_0)) (e_lf 40 (e_un n_2_40))) (e_br 92 (e_lf 60 (e_un n_2_60)) (e_lf 92 (e_un n_2_92))))
theorem e_tk_2 : e_Tb 2 e_tb_2 := (e_brT (e_brT (e_lfT t_2_0) (e_lfT t_2_40)) (e_brT (e_lfT t_2_60) (e_lfT t_2_92)))
theorem hq_4 : (e_ml[4]?).map (·.2.1) = some prog_1_method_9_code := rfl
theorem ho_4 : (e_ml[4]?).map (·.1.cls) = some "Plateroomprinter" := rfl
theorem hr_4 : (e_ml[4]?).map (·.2.2.2) = some none := rfl
noncomputable def n_4_15 : e_Y := u_tab (o_retv)
theorem t_4_15 : e_Sn 4 15 (e_un n_4_15) := u_tabT (s_vret hq_4 hr_4 (by decide +kernel) : e_Sn 4 15 (o_retv))
noncomputable def n_4_12 : e_Y := u_old (o_putf (e_f1 0 16) e_okI 15) n_4_15
theorem t_4_12 : e_Sn 4 12 (e_un n_4_12) := u_oldT (s_putf (ty0 := ey_0) (ok := e_okI) (C := er_0) (T := et_0) (N := 17) (ref := "Plateroomprinter") (index := 87) (ci := 0) (k := 16) hq_4 ho_4 ⟨rfl, by decide, ei_0, (List.mem_of_getElem? (i := 696) (by decide +kernel)), .inl rfl⟩ eo_0 en_0 e_oksI (.inl rfl) (by decide +kernel) rfl : e_Sn 4 12 (o_putf (e_f1 0 16) e_okI 15)) t_4_15 (e_cg_putf (e_f1 0 16) e_okI)
noncomputable def n_4_11 : e_Y := u_ld f_okI f_l3 n_4_12
theorem t_4_11 : e_Sn 4 11 (e_un n_4_11) := u_ldIT f_l3_eq (s_iload (i := .iload_n 3) (len := 1) hq_4 (by decide +kernel) rfl (.inr ⟨3, rfl, rfl, rfl⟩) : e_Sn 4 11 (o_load e_okI 3 12)) t_4_12
noncomputable def n_4_10 : e_Y := u_ld f_okA f_l0 n_4_11
theorem t_4_10 : e_Sn 4 10 (e_un n_4_10) := u_ldAT f_l0_eq (s_aload (i := .aload_n 0) (len := 1) hq_4 (by decide +kernel) rfl (.inr ⟨0, rfl, rfl, rfl⟩) : e_Sn 4 10 (o_load e_okR 0 11)) t_4_11
noncomputable def n_4_7 : e_Y := u_old (o_putf (e_f1 0 15) e_okI 10) n_4_10
theorem t_4_7 : e_Sn 4 7 (e_un n_4_7) := u_oldT (s_putf (ty0 := ey_0) (ok := e_okI) (C := er_0) (T := et_0) (N := 17) (ref := "Plateroomprinter") (index := 84) (ci := 0) (k := 15) hq_4 ho_4 ⟨rfl, by decide, ei_0, (List.mem_of_getElem? (i := 695) (by decide +kernel)), .inl rfl⟩ eo_0 en_0 e_oksI (.inl rfl) (by decide +kernel) rfl : e_Sn 4 7 (o_putf (e_f1 0 15) e_okI 10)) t_4_10 (e_cg_putf (e_f1 0 15) e_okI)
noncomputable def n_4_6 : e_Y := u_ld f_okI f_l2 n_4_7
theorem t_4_6 : e_Sn 4 6 (e_un n_4_6) := u_ldIT f_l2_eq (s_iload (i := .iload_n 2) (len := 1) hq_4 (by decide +kernel) rfl (.inr ⟨2, rfl, rfl, rfl⟩) : e_Sn 4 6 (o_load e_okI 2 7)) t_4_7
noncomputable def n_4_5 : e_Y := u_ld f_okA f_l0 n_4_6
theorem t_4_5 : e_Sn 4 5 (e_un n_4_5) := u_ldAT f_l0_eq (s_aload (i := .aload_n 0) (len := 1) hq_4 (by decide +kernel) rfl (.inr ⟨0, rfl, rfl, rfl⟩) : e_Sn 4 5 (o_load e_okR 0 6)) t_4_6
noncomputable def n_4_2 : e_Y := u_old (o_putf (e_f1 0 14) e_okI 5) n_4_5
theorem t_4_2 : e_Sn 4 2 (e_un n_4_2) := u_oldT (s_putf (ty0 := ey_0) (ok := e_okI) (C := er_0) (T := et_0) (N := 17) (ref := "Plateroomprinter") (index := 81) (ci := 0) (k := 14) hq_4 ho_4 ⟨rfl, by decide, ei_0, (List.mem_of_getElem? (i := 694) (by decide +kernel)), .inl rfl⟩ eo_0 en_0 e_oksI (.inl rfl) (by decide +kernel) rfl : e_Sn 4 2 (o_putf (e_f1 0 14) e_okI 5)) t_4_5 (e_cg_putf (e_f1 0 14) e_okI)
noncomputable def n_4_1 : e_Y := u_ld f_okI f_l1 n_4_2
theorem t_4_1 : e_Sn 4 1 (e_un n_4_1) := u_ldIT f_l1_eq (s_iload (i := .iload_n 1) (len := 1) hq_4 (by decide +kernel) rfl (.inr ⟨1, rfl, rfl, rfl⟩) : e_Sn 4 1 (o_load e_okI 1 2)) t_4_2
noncomputable def n_4_0 : e_Y := u_ld f_okA f_l0 n_4_1
theorem t_4_0 : e_Sn 4 0 (e_un n_4_0) := u_ldAT f_l0_eq (s_aload (i := .aload_n 0) (len := 1) hq_4 (by decide +kernel) rfl (.inr ⟨0, rfl, rfl, rfl⟩) : e_Sn 4 0 (o_load e_okR 0 1)) t_4_1
noncomputable def e_tb_4 : e_X := (e_lf 0 (e_un n_4_0))
theorem e_tk_4 : e_Tb 4 e_tb_4 := (e_lfT t_4_0)
theorem hq_11 : (e_ml[11]?).map (·.2.1) = some prog_2_method_6_code := rfl
theorem ho_11 : (e_ml[11]?).map (·.1.cls) = some "Plateroomprinter$Code" := rfl
theorem hr_11 : (e_ml[11]?).map (·.2.2.2) = some none := rfl
noncomputable def n_11_33 : e_Y := u_tab (o_retv)
theorem t_11_33 : e_Sn 11 33 (e_un n_11_33) := u_tabT (s_vret hq_11 hr_11 (by decide +kernel) : e_Sn 11 33 (o_retv))
noncomputable def n_11_25 : e_Y := u_jmp y_le (u_old2 (o_cgt 28 33) 28 (u_at 28) n_11_33) (u_at 28) n_11_33
theorem t_11_25 : e_Sn 11 25 (e_un n_11_25) := u_cgtT rfl (s_cle (off := (8)) hq_11 (by decide +kernel) rfl rfl : e_Sn 11 25 (o_cgt 28 33)) u_atT t_11_33
noncomputable def n_11_22 : e_Y := u_push (.inl 2147485248) n_11_25
theorem t_11_22 : e_Sn 11 22 (e_un n_11_22) := u_pushT (s_sipush (n := (1600)) hq_11 (by decide +kernel) rfl ⟨by decide +kernel, by decide +kernel⟩ : e_Sn 11 22 (o_push (.inl 2147485248) 25)) t_11_25
noncomputable def n_11_19 : e_Y := u_getf 1 2 (u_old (o_getf (e_f1 1 2) 22) n_11_22) n_11_22
theorem t_11_19 : e_Sn 11 19 (e_un n_11_19) := u_getfT (s_getf (C := er_1) (T := et_1) (N := 4) (ref := "Plateroomprinter$Code") (index := 18) (ci := 1) (k := 2) hq_11 ho_11 ⟨rfl, by decide, ei_1, (List.mem_of_getElem? (i := 200) (by decide +kernel)), .inl rfl⟩ (by decide +kernel) rfl : e_Sn 11 19 (o_getf (e_f1 1 2) 22)) t_11_22
noncomputable def n_11_18 : e_Y := u_ld f_okA f_l0 n_11_19
theorem t_11_18 : e_Sn 11 18 (e_un n_11_18) := u_ldAT f_l0_eq (s_aload (i := .aload_n 0) (len := 1) hq_11 (by decide +kernel) rfl (.inr ⟨0, rfl, rfl, rfl⟩) : e_Sn 11 18 (o_load e_okR 0 19)) t_11_19
noncomputable def n_11_15 : e_Y := u_old (o_putf (e_f1 1 3) e_okI 18) n_11_18
theorem t_11_15 : e_Sn 11 15 (e_un n_11_15) := u_oldT (s_putf (ty0 := ey_1) (ok := e_okI) (C := er_1) (T := et_1) (N := 4) (ref := "Plateroomprinter$Code") (index := 22) (ci := 1) (k := 3) hq_11 ho_11 ⟨rfl, by decide, ei_1, (List.mem_of_getElem? (i := 203) (by decide +kernel)), .inl rfl⟩ eo_1 en_1 e_oksI (.inl rfl) (by decide +kernel) rfl : e_Sn 11 15 (o_putf (e_f1 1 3) e_okI 18)) t_11_18 (e_cg_putf (e_f1 1 3) e_okI)
noncomputable def n_11_14 : e_Y := u_push (.inl 2147483648) n_11_15
theorem t_11_14 : e_Sn 11 14 (e_un n_11_14) := u_pushT (s_iconst (n := (0)) hq_11 (by decide +kernel) rfl ⟨by decide +kernel, by decide +kernel⟩ : e_Sn 11 14 (o_push (.inl 2147483648) 15)) t_11_15
noncomputable def n_11_13 : e_Y := u_ld f_okA f_l0 n_11_14
theorem t_11_13 : e_Sn 11 13 (e_un n_11_13) := u_ldAT f_l0_eq (s_aload (i := .aload_n 0) (len := 1) hq_11 (by decide +kernel) rfl (.inr ⟨0, rfl, rfl, rfl⟩) : e_Sn 11 13 (o_load e_okR 0 14)) t_11_14
noncomputable def n_11_10 : e_Y := u_old (o_putf (e_f1 1 2) e_okI 13) n_11_13
theorem t_11_10 : e_Sn 11 10 (e_un n_11_10) := u_oldT (s_putf (ty0 := ey_1) (ok := e_okI) (C := er_1) (T := et_1) (N := 4) (ref := "Plateroomprinter$Code") (index := 18) (ci := 1) (k := 2) hq_11 ho_11 ⟨rfl, by decide, ei_1, (List.mem_of_getElem? (i := 200) (by decide +kernel)), .inl rfl⟩ eo_1 en_1 e_oksI (.inl rfl) (by decide +kernel) rfl : e_Sn 11 10 (o_putf (e_f1 1 2) e_okI 13)) t_11_13 (e_cg_putf (e_f1 1 2) e_okI)
noncomputable def n_11_9 : e_Y := u_bin a_iadd (u_old (o_iadd 10) n_11_10) n_11_10
theorem t_11_9 : e_Sn 11 9 (e_un n_11_9) := u_iaddT (s_iadd hq_11 (by decide +kernel) rfl : e_Sn 11 9 (o_iadd 10)) t_11_10
noncomputable def n_11_6 : e_Y := u_getf 1 3 (u_old (o_getf (e_f1 1 3) 9) n_11_9) n_11_9
theorem t_11_6 : e_Sn 11 6 (e_un n_11_6) := u_getfT (s_getf (C := er_1) (T := et_1) (N := 4) (ref := "Plateroomprinter$Code") (index := 22) (ci := 1) (k := 3) hq_11 ho_11 ⟨rfl, by decide, ei_1, (List.mem_of_getElem? (i := 203) (by decide +kernel)), .inl rfl⟩ (by decide +kernel) rfl : e_Sn 11 6 (o_getf (e_f1 1 3) 9)) t_11_9
noncomputable def n_11_5 : e_Y := u_ld f_okA f_l0 n_11_6
theorem t_11_5 : e_Sn 11 5 (e_un n_11_5) := u_ldAT f_l0_eq (s_aload (i := .aload_n 0) (len := 1) hq_11 (by decide +kernel) rfl (.inr ⟨0, rfl, rfl, rfl⟩) : e_Sn 11 5 (o_load e_okR 0 6)) t_11_6
noncomputable def n_11_2 : e_Y := u_getf 1 2 (u_old (o_getf (e_f1 1 2) 5) n_11_5) n_11_5
theorem t_11_2 : e_Sn 11 2 (e_un n_11_2) := u_getfT (s_getf (C := er_1) (T := et_1) (N := 4) (ref := "Plateroomprinter$Code") (index := 18) (ci := 1) (k := 2) hq_11 ho_11 ⟨rfl, by decide, ei_1, (List.mem_of_getElem? (i := 200) (by decide +kernel)), .inl rfl⟩ (by decide +kernel) rfl : e_Sn 11 2 (o_getf (e_f1 1 2) 5)) t_11_5
noncomputable def n_11_1 : e_Y := u_old (o_dup 2) n_11_2
theorem t_11_1 : e_Sn 11 1 (e_un n_11_1) := u_oldT (s_dup hq_11 (by decide +kernel) rfl : e_Sn 11 1 (o_dup 2)) t_11_2 e_cg_dup
noncomputable def n_11_0 : e_Y := u_ld f_okA f_l0 n_11_1
theorem t_11_0 : e_Sn 11 0 (e_un n_11_0) := u_ldAT f_l0_eq (s_aload (i := .aload_n 0) (len := 1) hq_11 (by decide +kernel) rfl (.inr ⟨0, rfl, rfl, rfl⟩) : e_Sn 11 0 (o_load e_okR 0 1)) t_11_1
noncomputable def e_tb_11 : e_X := (e_lf 0 (e_un n_11_0))
theorem e_tk_11 : e_Tb 11 e_tb_11 := (e_lfT t_11_0)
end SN
