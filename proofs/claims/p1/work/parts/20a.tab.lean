/-! TABLES, by program -/
section SN
theorem hq_59 : (e_ml[59]?).map (·.2.1) = some prog_2_method_1_code := rfl
theorem ho_59 : (e_ml[59]?).map (·.1.cls) = some "Plateroomprinter$Code" := rfl
theorem hr_59 : (e_ml[59]?).map (·.2.2.2) = some none := rfl
noncomputable def n_59_22 : e_Y := u_tab (o_retv)
theorem t_59_22 : e_Sn 59 22 (e_un n_59_22) := u_tabT (s_vret hq_59 hr_59 (by decide +kernel) : e_Sn 59 22 (o_retv))
noncomputable def n_59_19 : e_Y := u_old (o_putf (e_f1 1 1) e_okR 22) n_59_22
theorem t_59_19 : e_Sn 59 19 (e_un n_59_19) := u_oldT (s_putf (ty0 := ey_1) (ok := e_okR) (C := er_1) (T := et_1) (N := 4) (ref := "Plateroomprinter$Code") (index := 15) (ci := 1) (k := 1) hq_59 ho_59 ⟨rfl, by decide, ei_1, (List.mem_of_getElem? (i := 199) (by decide +kernel)), .inl rfl⟩ eo_1 en_1 e_oksA (.inr ⟨rfl, rfl, rfl⟩) (by decide +kernel) rfl : e_Sn 59 19 (o_putf (e_f1 1 1) e_okR 22)) t_59_22 (e_cg_putf (e_f1 1 1) e_okR)
noncomputable def n_59_17 : e_Y := u_tab (o_newa 0 (e_I 2147483648) 19)
theorem t_59_17 : e_Sn 59 17 (e_un n_59_17) := u_tabT (s_newI (List.mem_of_getElem? (i := 215) (by decide +kernel)) hq_59 (by decide +kernel) rfl : e_Sn 59 17 (o_newa 0 (e_I 2147483648) 19))
noncomputable def n_59_14 : e_Y := u_push (.inl 2147485648) n_59_17
theorem t_59_14 : e_Sn 59 14 (e_un n_59_14) := u_pushT (s_sipush (n := (2000)) hq_59 (by decide +kernel) rfl ⟨by decide +kernel, by decide +kernel⟩ : e_Sn 59 14 (o_push (.inl 2147485648) 17)) t_59_17
noncomputable def n_59_13 : e_Y := u_ld f_okA f_l0 n_59_14
theorem t_59_13 : e_Sn 59 13 (e_un n_59_13) := u_ldAT f_l0_eq (s_aload (i := .aload_n 0) (len := 1) hq_59 (by decide +kernel) rfl (.inr ⟨0, rfl, rfl, rfl⟩) : e_Sn 59 13 (o_load e_okR 0 14)) t_59_14
noncomputable def n_59_10 : e_Y := u_old (o_putf (e_f1 1 0) e_okR 13) n_59_13
theorem t_59_10 : e_Sn 59 10 (e_un n_59_10) := u_oldT (s_putf (ty0 := ey_1) (ok := e_okR) (C := er_1) (T := et_1) (N := 4) (ref := "Plateroomprinter$Code") (index := 11) (ci := 1) (k := 0) hq_59 ho_59 ⟨rfl, by decide, ei_1, (List.mem_of_getElem? (i := 198) (by decide +kernel)), .inl rfl⟩ eo_1 en_1 e_oksA (.inr ⟨rfl, rfl, rfl⟩) (by decide +kernel) rfl : e_Sn 59 10 (o_putf (e_f1 1 0) e_okR 13)) t_59_13 (e_cg_putf (e_f1 1 0) e_okR)
noncomputable def n_59_8 : e_Y := u_tab (o_newa 0 (e_I 2147483648) 10)
theorem t_59_8 : e_Sn 59 8 (e_un n_59_8) := u_tabT (s_newI (List.mem_of_getElem? (i := 215) (by decide +kernel)) hq_59 (by decide +kernel) rfl : e_Sn 59 8 (o_newa 0 (e_I 2147483648) 10))
noncomputable def n_59_5 : e_Y := u_push (.inl 2147485648) n_59_8
theorem t_59_5 : e_Sn 59 5 (e_un n_59_5) := u_pushT (s_sipush (n := (2000)) hq_59 (by decide +kernel) rfl ⟨by decide +kernel, by decide +kernel⟩ : e_Sn 59 5 (o_push (.inl 2147485648) 8)) t_59_8
noncomputable def n_59_4 : e_Y := u_ld f_okA f_l0 n_59_5
theorem t_59_4 : e_Sn 59 4 (e_un n_59_4) := u_ldAT f_l0_eq (s_aload (i := .aload_n 0) (len := 1) hq_59 (by decide +kernel) rfl (.inr ⟨0, rfl, rfl, rfl⟩) : e_Sn 59 4 (o_load e_okR 0 5)) t_59_5
noncomputable def n_59_1 : e_Y := u_tab (o_oinit 4)
theorem t_59_1 : e_Sn 59 1 (e_un n_59_1) := u_tabT (s_oinit (idx := 3) hq_59 ho_59 (List.mem_of_getElem? (i := 197) (by decide +kernel)) (List.mem_of_getElem? (i := 190) (by decide +kernel)) (List.mem_of_getElem? (i := 191) (by decide +kernel)) (by decide +kernel) rfl : e_Sn 59 1 (o_oinit 4))
noncomputable def n_59_0 : e_Y := u_ld f_okA f_l0 n_59_1
theorem t_59_0 : e_Sn 59 0 (e_un n_59_0) := u_ldAT f_l0_eq (s_aload (i := .aload_n 0) (len := 1) hq_59 (by decide +kernel) rfl (.inr ⟨0, rfl, rfl, rfl⟩) : e_Sn 59 0 (o_load e_okR 0 1)) t_59_1
noncomputable def e_tb_59 : e_X := (e_br 10 (e_br 4 (e_lf 0 (e_un n_59_0)) (e_lf 4 (e_un n_59_4))) (e_br 19 (e_lf 10 (e_un n_59_10)) (e_lf 19 (e_un n_59_19))))
theorem e_tk_59 : e_Tb 59 e_tb_59 := (e_brT (e_brT (e_lfT t_59_0) (e_lfT t_59_4)) (e_brT (e_lfT t_59_10) (e_lfT t_59_19)))
theorem hq_62 : (e_ml[62]?).map (·.2.1) = some prog_3_method_1_code := rfl
theorem ho_62 : (e_ml[62]?).map (·.1.cls) = some "Plateroomprinter$Engine" := rfl
theorem hr_62 : (e_ml[62]?).map (·.2.2.2) = some none := rfl
noncomputable def n_62_102 : e_Y := u_tab (o_retv)
theorem t_62_102 : e_Sn 62 102 (e_un n_62_102) := u_tabT (s_vret hq_62 hr_62 (by decide +kernel) : e_Sn 62 102 (o_retv))
noncomputable def n_62_99 : e_Y := u_old (o_putf (e_f1 2 1) e_okR 102) n_62_102
theorem t_62_99 : e_Sn 62 99 (e_un n_62_99) := u_oldT (s_putf (ty0 := ey_2) (ok := e_okR) (C := er_2) (T := et_2) (N := 19) (ref := "Plateroomprinter$Engine") (index := 49) (ci := 2) (k := 1) hq_62 ho_62 ⟨rfl, by decide, ei_2, (List.mem_of_getElem? (i := 617) (by decide +kernel)), .inl rfl⟩ eo_2 en_2 e_oksR (.inr ⟨rfl, rfl, rfl⟩) (by decide +kernel) rfl : e_Sn 62 99 (o_putf (e_f1 2 1) e_okR 102)) t_62_102 (e_cg_putf (e_f1 2 1) e_okR)
noncomputable def n_62_98 : e_Y := u_ld f_okA f_l2 n_62_99
theorem t_62_98 : e_Sn 62 98 (e_un n_62_98) := u_ldAT f_l2_eq (s_aload (i := .aload_n 2) (len := 1) hq_62 (by decide +kernel) rfl (.inr ⟨2, rfl, rfl, rfl⟩) : e_Sn 62 98 (o_load e_okR 2 99)) t_62_99
noncomputable def n_62_97 : e_Y := u_ld f_okA f_l0 n_62_98
theorem t_62_97 : e_Sn 62 97 (e_un n_62_97) := u_ldAT f_l0_eq (s_aload (i := .aload_n 0) (len := 1) hq_62 (by decide +kernel) rfl (.inr ⟨0, rfl, rfl, rfl⟩) : e_Sn 62 97 (o_load e_okR 0 98)) t_62_98
noncomputable def n_62_94 : e_Y := u_old (o_putf (e_f1 2 0) e_okR 97) n_62_97
theorem t_62_94 : e_Sn 62 94 (e_un n_62_94) := u_oldT (s_putf (ty0 := ey_2) (ok := e_okR) (C := er_2) (T := et_2) (N := 19) (ref := "Plateroomprinter$Engine") (index := 45) (ci := 2) (k := 0) hq_62 ho_62 ⟨rfl, by decide, ei_2, (List.mem_of_getElem? (i := 616) (by decide +kernel)), .inl rfl⟩ eo_2 en_2 e_oksR (.inr ⟨rfl, rfl, rfl⟩) (by decide +kernel) rfl : e_Sn 62 94 (o_putf (e_f1 2 0) e_okR 97)) t_62_97 (e_cg_putf (e_f1 2 0) e_okR)
noncomputable def n_62_93 : e_Y := u_ld f_okA f_l1 n_62_94
theorem t_62_93 : e_Sn 62 93 (e_un n_62_93) := u_ldAT f_l1_eq (s_aload (i := .aload_n 1) (len := 1) hq_62 (by decide +kernel) rfl (.inr ⟨1, rfl, rfl, rfl⟩) : e_Sn 62 93 (o_load e_okR 1 94)) t_62_94
noncomputable def n_62_92 : e_Y := u_ld f_okA f_l0 n_62_93
theorem t_62_92 : e_Sn 62 92 (e_un n_62_92) := u_ldAT f_l0_eq (s_aload (i := .aload_n 0) (len := 1) hq_62 (by decide +kernel) rfl (.inr ⟨0, rfl, rfl, rfl⟩) : e_Sn 62 92 (o_load e_okR 0 93)) t_62_93
noncomputable def n_62_89 : e_Y := u_old (o_putf (e_f1 2 12) e_okR 92) n_62_92
theorem t_62_89 : e_Sn 62 89 (e_un n_62_89) := u_oldT (s_putf (ty0 := ey_2) (ok := e_okR) (C := er_2) (T := et_2) (N := 19) (ref := "Plateroomprinter$Engine") (index := 42) (ci := 2) (k := 12) hq_62 ho_62 ⟨rfl, by decide, ei_2, (List.mem_of_getElem? (i := 629) (by decide +kernel)), .inl rfl⟩ eo_2 en_2 e_oksA (.inr ⟨rfl, rfl, rfl⟩) (by decide +kernel) rfl : e_Sn 62 89 (o_putf (e_f1 2 12) e_okR 92)) t_62_92 (e_cg_putf (e_f1 2 12) e_okR)
noncomputable def n_62_87 : e_Y := u_tab (o_newa 0 (e_I 2147483648) 89)
theorem t_62_87 : e_Sn 62 87 (e_un n_62_87) := u_tabT (s_newI (List.mem_of_getElem? (i := 215) (by decide +kernel)) hq_62 (by decide +kernel) rfl : e_Sn 62 87 (o_newa 0 (e_I 2147483648) 89))
noncomputable def n_62_85 : e_Y := u_push (.inl 2147483660) n_62_87
theorem t_62_85 : e_Sn 62 85 (e_un n_62_85) := u_pushT (s_bipush (n := (12)) hq_62 (by decide +kernel) rfl ⟨by decide +kernel, by decide +kernel⟩ : e_Sn 62 85 (o_push (.inl 2147483660) 87)) t_62_87
noncomputable def n_62_84 : e_Y := u_ld f_okA f_l0 n_62_85
theorem t_62_84 : e_Sn 62 84 (e_un n_62_84) := u_ldAT f_l0_eq (s_aload (i := .aload_n 0) (len := 1) hq_62 (by decide +kernel) rfl (.inr ⟨0, rfl, rfl, rfl⟩) : e_Sn 62 84 (o_load e_okR 0 85)) t_62_85
noncomputable def n_62_81 : e_Y := u_old (o_putf (e_f1 2 11) e_okR 84) n_62_84
theorem t_62_81 : e_Sn 62 81 (e_un n_62_81) := u_oldT (s_putf (ty0 := ey_2) (ok := e_okR) (C := er_2) (T := et_2) (N := 19) (ref := "Plateroomprinter$Engine") (index := 39) (ci := 2) (k := 11) hq_62 ho_62 ⟨rfl, by decide, ei_2, (List.mem_of_getElem? (i := 628) (by decide +kernel)), .inl rfl⟩ eo_2 en_2 e_oksA (.inr ⟨rfl, rfl, rfl⟩) (by decide +kernel) rfl : e_Sn 62 81 (o_putf (e_f1 2 11) e_okR 84)) t_62_84 (e_cg_putf (e_f1 2 11) e_okR)
noncomputable def n_62_79 : e_Y := u_tab (o_newa 0 (e_I 2147483648) 81)
theorem t_62_79 : e_Sn 62 79 (e_un n_62_79) := u_tabT (s_newI (List.mem_of_getElem? (i := 215) (by decide +kernel)) hq_62 (by decide +kernel) rfl : e_Sn 62 79 (o_newa 0 (e_I 2147483648) 81))
noncomputable def n_62_77 : e_Y := u_push (.inl 2147483660) n_62_79
theorem t_62_77 : e_Sn 62 77 (e_un n_62_77) := u_pushT (s_bipush (n := (12)) hq_62 (by decide +kernel) rfl ⟨by decide +kernel, by decide +kernel⟩ : e_Sn 62 77 (o_push (.inl 2147483660) 79)) t_62_79
noncomputable def n_62_76 : e_Y := u_ld f_okA f_l0 n_62_77
theorem t_62_76 : e_Sn 62 76 (e_un n_62_76) := u_ldAT f_l0_eq (s_aload (i := .aload_n 0) (len := 1) hq_62 (by decide +kernel) rfl (.inr ⟨0, rfl, rfl, rfl⟩) : e_Sn 62 76 (o_load e_okR 0 77)) t_62_77
noncomputable def n_62_73 : e_Y := u_old (o_putf (e_f1 2 10) e_okR 76) n_62_76
theorem t_62_73 : e_Sn 62 73 (e_un n_62_73) := u_oldT (s_putf (ty0 := ey_2) (ok := e_okR) (C := er_2) (T := et_2) (N := 19) (ref := "Plateroomprinter$Engine") (index := 36) (ci := 2) (k := 10) hq_62 ho_62 ⟨rfl, by decide, ei_2, (List.mem_of_getElem? (i := 627) (by decide +kernel)), .inl rfl⟩ eo_2 en_2 e_oksA (.inr ⟨rfl, rfl, rfl⟩) (by decide +kernel) rfl : e_Sn 62 73 (o_putf (e_f1 2 10) e_okR 76)) t_62_76 (e_cg_putf (e_f1 2 10) e_okR)
noncomputable def n_62_71 : e_Y := u_tab (o_newa 0 (e_I 2147483648) 73)
theorem t_62_71 : e_Sn 62 71 (e_un n_62_71) := u_tabT (s_newI (List.mem_of_getElem? (i := 215) (by decide +kernel)) hq_62 (by decide +kernel) rfl : e_Sn 62 71 (o_newa 0 (e_I 2147483648) 73))
noncomputable def n_62_69 : e_Y := u_push (.inl 2147483660) n_62_71
theorem t_62_69 : e_Sn 62 69 (e_un n_62_69) := u_pushT (s_bipush (n := (12)) hq_62 (by decide +kernel) rfl ⟨by decide +kernel, by decide +kernel⟩ : e_Sn 62 69 (o_push (.inl 2147483660) 71)) t_62_71
noncomputable def n_62_68 : e_Y := u_ld f_okA f_l0 n_62_69
theorem t_62_68 : e_Sn 62 68 (e_un n_62_68) := u_ldAT f_l0_eq (s_aload (i := .aload_n 0) (len := 1) hq_62 (by decide +kernel) rfl (.inr ⟨0, rfl, rfl, rfl⟩) : e_Sn 62 68 (o_load e_okR 0 69)) t_62_69
noncomputable def n_62_65 : e_Y := u_old (o_putf (e_f1 2 9) e_okR 68) n_62_68
theorem t_62_65 : e_Sn 62 65 (e_un n_62_65) := u_oldT (s_putf (ty0 := ey_2) (ok := e_okR) (C := er_2) (T := et_2) (N := 19) (ref := "Plateroomprinter$Engine") (index := 33) (ci := 2) (k := 9) hq_62 ho_62 ⟨rfl, by decide, ei_2, (List.mem_of_getElem? (i := 626) (by decide +kernel)), .inl rfl⟩ eo_2 en_2 e_oksA (.inr ⟨rfl, rfl, rfl⟩) (by decide +kernel) rfl : e_Sn 62 65 (o_putf (e_f1 2 9) e_okR 68)) t_62_68 (e_cg_putf (e_f1 2 9) e_okR)
noncomputable def n_62_63 : e_Y := u_tab (o_newa 0 (e_I 2147483648) 65)
theorem t_62_63 : e_Sn 62 63 (e_un n_62_63) := u_tabT (s_newI (List.mem_of_getElem? (i := 215) (by decide +kernel)) hq_62 (by decide +kernel) rfl : e_Sn 62 63 (o_newa 0 (e_I 2147483648) 65))
noncomputable def n_62_61 : e_Y := u_push (.inl 2147483660) n_62_63
theorem t_62_61 : e_Sn 62 61 (e_un n_62_61) := u_pushT (s_bipush (n := (12)) hq_62 (by decide +kernel) rfl ⟨by decide +kernel, by decide +kernel⟩ : e_Sn 62 61 (o_push (.inl 2147483660) 63)) t_62_63
noncomputable def n_62_60 : e_Y := u_ld f_okA f_l0 n_62_61
theorem t_62_60 : e_Sn 62 60 (e_un n_62_60) := u_ldAT f_l0_eq (s_aload (i := .aload_n 0) (len := 1) hq_62 (by decide +kernel) rfl (.inr ⟨0, rfl, rfl, rfl⟩) : e_Sn 62 60 (o_load e_okR 0 61)) t_62_61
noncomputable def n_62_57 : e_Y := u_old (o_putf (e_f1 2 8) e_okR 60) n_62_60
theorem t_62_57 : e_Sn 62 57 (e_un n_62_57) := u_oldT (s_putf (ty0 := ey_2) (ok := e_okR) (C := er_2) (T := et_2) (N := 19) (ref := "Plateroomprinter$Engine") (index := 30) (ci := 2) (k := 8) hq_62 ho_62 ⟨rfl, by decide, ei_2, (List.mem_of_getElem? (i := 625) (by decide +kernel)), .inl rfl⟩ eo_2 en_2 e_oksA (.inr ⟨rfl, rfl, rfl⟩) (by decide +kernel) rfl : e_Sn 62 57 (o_putf (e_f1 2 8) e_okR 60)) t_62_60 (e_cg_putf (e_f1 2 8) e_okR)
noncomputable def n_62_55 : e_Y := u_tab (o_newa 0 (e_I 2147483648) 57)
theorem t_62_55 : e_Sn 62 55 (e_un n_62_55) := u_tabT (s_newI (List.mem_of_getElem? (i := 215) (by decide +kernel)) hq_62 (by decide +kernel) rfl : e_Sn 62 55 (o_newa 0 (e_I 2147483648) 57))
noncomputable def n_62_53 : e_Y := u_push (.inl 2147483660) n_62_55
theorem t_62_53 : e_Sn 62 53 (e_un n_62_53) := u_pushT (s_bipush (n := (12)) hq_62 (by decide +kernel) rfl ⟨by decide +kernel, by decide +kernel⟩ : e_Sn 62 53 (o_push (.inl 2147483660) 55)) t_62_55
noncomputable def n_62_52 : e_Y := u_ld f_okA f_l0 n_62_53
theorem t_62_52 : e_Sn 62 52 (e_un n_62_52) := u_ldAT f_l0_eq (s_aload (i := .aload_n 0) (len := 1) hq_62 (by decide +kernel) rfl (.inr ⟨0, rfl, rfl, rfl⟩) : e_Sn 62 52 (o_load e_okR 0 53)) t_62_53
noncomputable def n_62_49 : e_Y := u_old (o_putf (e_f1 2 7) e_okR 52) n_62_52
theorem t_62_49 : e_Sn 62 49 (e_un n_62_49) := u_oldT (s_putf (ty0 := ey_2) (ok := e_okR) (C := er_2) (T := et_2) (N := 19) (ref := "Plateroomprinter$Engine") (index := 27) (ci := 2) (k := 7) hq_62 ho_62 ⟨rfl, by decide, ei_2, (List.mem_of_getElem? (i := 624) (by decide +kernel)), .inl rfl⟩ eo_2 en_2 e_oksA (.inr ⟨rfl, rfl, rfl⟩) (by decide +kernel) rfl : e_Sn 62 49 (o_putf (e_f1 2 7) e_okR 52)) t_62_52 (e_cg_putf (e_f1 2 7) e_okR)
noncomputable def n_62_47 : e_Y := u_tab (o_newa 0 (e_I 2147483648) 49)
theorem t_62_47 : e_Sn 62 47 (e_un n_62_47) := u_tabT (s_newI (List.mem_of_getElem? (i := 215) (by decide +kernel)) hq_62 (by decide +kernel) rfl : e_Sn 62 47 (o_newa 0 (e_I 2147483648) 49))
noncomputable def n_62_45 : e_Y := u_push (.inl 2147483660) n_62_47
theorem t_62_45 : e_Sn 62 45 (e_un n_62_45) := u_pushT (s_bipush (n := (12)) hq_62 (by decide +kernel) rfl ⟨by decide +kernel, by decide +kernel⟩ : e_Sn 62 45 (o_push (.inl 2147483660) 47)) t_62_47
noncomputable def n_62_44 : e_Y := u_ld f_okA f_l0 n_62_45
theorem t_62_44 : e_Sn 62 44 (e_un n_62_44) := u_ldAT f_l0_eq (s_aload (i := .aload_n 0) (len := 1) hq_62 (by decide +kernel) rfl (.inr ⟨0, rfl, rfl, rfl⟩) : e_Sn 62 44 (o_load e_okR 0 45)) t_62_45
noncomputable def n_62_41 : e_Y := u_old (o_putf (e_f1 2 6) e_okR 44) n_62_44
theorem t_62_41 : e_Sn 62 41 (e_un n_62_41) := u_oldT (s_putf (ty0 := ey_2) (ok := e_okR) (C := er_2) (T := et_2) (N := 19) (ref := "Plateroomprinter$Engine") (index := 24) (ci := 2) (k := 6) hq_62 ho_62 ⟨rfl, by decide, ei_2, (List.mem_of_getElem? (i := 623) (by decide +kernel)), .inl rfl⟩ eo_2 en_2 e_oksA (.inr ⟨rfl, rfl, rfl⟩) (by decide +kernel) rfl : e_Sn 62 41 (o_putf (e_f1 2 6) e_okR 44)) t_62_44 (e_cg_putf (e_f1 2 6) e_okR)
noncomputable def n_62_39 : e_Y := u_tab (o_newa 0 (e_I 2147483648) 41)
theorem t_62_39 : e_Sn 62 39 (e_un n_62_39) := u_tabT (s_newI (List.mem_of_getElem? (i := 215) (by decide +kernel)) hq_62 (by decide +kernel) rfl : e_Sn 62 39 (o_newa 0 (e_I 2147483648) 41))
noncomputable def n_62_37 : e_Y := u_push (.inl 2147483660) n_62_39
theorem t_62_37 : e_Sn 62 37 (e_un n_62_37) := u_pushT (s_bipush (n := (12)) hq_62 (by decide +kernel) rfl ⟨by decide +kernel, by decide +kernel⟩ : e_Sn 62 37 (o_push (.inl 2147483660) 39)) t_62_39
noncomputable def n_62_36 : e_Y := u_ld f_okA f_l0 n_62_37
theorem t_62_36 : e_Sn 62 36 (e_un n_62_36) := u_ldAT f_l0_eq (s_aload (i := .aload_n 0) (len := 1) hq_62 (by decide +kernel) rfl (.inr ⟨0, rfl, rfl, rfl⟩) : e_Sn 62 36 (o_load e_okR 0 37)) t_62_37
noncomputable def n_62_33 : e_Y := u_old (o_putf (e_f1 2 5) e_okR 36) n_62_36
theorem t_62_33 : e_Sn 62 33 (e_un n_62_33) := u_oldT (s_putf (ty0 := ey_2) (ok := e_okR) (C := er_2) (T := et_2) (N := 19) (ref := "Plateroomprinter$Engine") (index := 21) (ci := 2) (k := 5) hq_62 ho_62 ⟨rfl, by decide, ei_2, (List.mem_of_getElem? (i := 622) (by decide +kernel)), .inl rfl⟩ eo_2 en_2 e_oksA (.inr ⟨rfl, rfl, rfl⟩) (by decide +kernel) rfl : e_Sn 62 33 (o_putf (e_f1 2 5) e_okR 36)) t_62_36 (e_cg_putf (e_f1 2 5) e_okR)
noncomputable def n_62_31 : e_Y := u_tab (o_newa 0 (e_I 2147483648) 33)
theorem t_62_31 : e_Sn 62 31 (e_un n_62_31) := u_tabT (s_newI (List.mem_of_getElem? (i := 215) (by decide +kernel)) hq_62 (by decide +kernel) rfl : e_Sn 62 31 (o_newa 0 (e_I 2147483648) 33))
noncomputable def n_62_29 : e_Y := u_push (.inl 2147483660) n_62_31
theorem t_62_29 : e_Sn 62 29 (e_un n_62_29) := u_pushT (s_bipush (n := (12)) hq_62 (by decide +kernel) rfl ⟨by decide +kernel, by decide +kernel⟩ : e_Sn 62 29 (o_push (.inl 2147483660) 31)) t_62_31
noncomputable def n_62_28 : e_Y := u_ld f_okA f_l0 n_62_29
theorem t_62_28 : e_Sn 62 28 (e_un n_62_28) := u_ldAT f_l0_eq (s_aload (i := .aload_n 0) (len := 1) hq_62 (by decide +kernel) rfl (.inr ⟨0, rfl, rfl, rfl⟩) : e_Sn 62 28 (o_load e_okR 0 29)) t_62_29
noncomputable def n_62_25 : e_Y := u_old (o_putf (e_f1 2 4) e_okR 28) n_62_28
theorem t_62_25 : e_Sn 62 25 (e_un n_62_25) := u_oldT (s_putf (ty0 := ey_2) (ok := e_okR) (C := er_2) (T := et_2) (N := 19) (ref := "Plateroomprinter$Engine") (index := 18) (ci := 2) (k := 4) hq_62 ho_62 ⟨rfl, by decide, ei_2, (List.mem_of_getElem? (i := 621) (by decide +kernel)), .inl rfl⟩ eo_2 en_2 e_oksA (.inr ⟨rfl, rfl, rfl⟩) (by decide +kernel) rfl : e_Sn 62 25 (o_putf (e_f1 2 4) e_okR 28)) t_62_28 (e_cg_putf (e_f1 2 4) e_okR)
noncomputable def n_62_23 : e_Y := u_tab (o_newa 0 (e_I 2147483648) 25)
theorem t_62_23 : e_Sn 62 23 (e_un n_62_23) := u_tabT (s_newI (List.mem_of_getElem? (i := 215) (by decide +kernel)) hq_62 (by decide +kernel) rfl : e_Sn 62 23 (o_newa 0 (e_I 2147483648) 25))
noncomputable def n_62_21 : e_Y := u_push (.inl 2147483654) n_62_23
theorem t_62_21 : e_Sn 62 21 (e_un n_62_21) := u_pushT (s_bipush (n := (6)) hq_62 (by decide +kernel) rfl ⟨by decide +kernel, by decide +kernel⟩ : e_Sn 62 21 (o_push (.inl 2147483654) 23)) t_62_23
noncomputable def n_62_20 : e_Y := u_ld f_okA f_l0 n_62_21
theorem t_62_20 : e_Sn 62 20 (e_un n_62_20) := u_ldAT f_l0_eq (s_aload (i := .aload_n 0) (len := 1) hq_62 (by decide +kernel) rfl (.inr ⟨0, rfl, rfl, rfl⟩) : e_Sn 62 20 (o_load e_okR 0 21)) t_62_21
noncomputable def n_62_17 : e_Y := u_old (o_putf (e_f1 2 3) e_okR 20) n_62_20
theorem t_62_17 : e_Sn 62 17 (e_un n_62_17) := u_oldT (s_putf (ty0 := ey_2) (ok := e_okR) (C := er_2) (T := et_2) (N := 19) (ref := "Plateroomprinter$Engine") (index := 15) (ci := 2) (k := 3) hq_62 ho_62 ⟨rfl, by decide, ei_2, (List.mem_of_getElem? (i := 619) (by decide +kernel)), .inl rfl⟩ eo_2 en_2 e_oksA (.inr ⟨rfl, rfl, rfl⟩) (by decide +kernel) rfl : e_Sn 62 17 (o_putf (e_f1 2 3) e_okR 20)) t_62_20 (e_cg_putf (e_f1 2 3) e_okR)
noncomputable def n_62_15 : e_Y := u_tab (o_newa 0 (e_I 2147483648) 17)
theorem t_62_15 : e_Sn 62 15 (e_un n_62_15) := u_tabT (s_newI (List.mem_of_getElem? (i := 215) (by decide +kernel)) hq_62 (by decide +kernel) rfl : e_Sn 62 15 (o_newa 0 (e_I 2147483648) 17))
noncomputable def n_62_13 : e_Y := u_push (.inl 2147483654) n_62_15
theorem t_62_13 : e_Sn 62 13 (e_un n_62_13) := u_pushT (s_bipush (n := (6)) hq_62 (by decide +kernel) rfl ⟨by decide +kernel, by decide +kernel⟩ : e_Sn 62 13 (o_push (.inl 2147483654) 15)) t_62_15
noncomputable def n_62_12 : e_Y := u_ld f_okA f_l0 n_62_13
theorem t_62_12 : e_Sn 62 12 (e_un n_62_12) := u_ldAT f_l0_eq (s_aload (i := .aload_n 0) (len := 1) hq_62 (by decide +kernel) rfl (.inr ⟨0, rfl, rfl, rfl⟩) : e_Sn 62 12 (o_load e_okR 0 13)) t_62_13
noncomputable def n_62_9 : e_Y := u_old (o_putf (e_f1 2 2) e_okR 12) n_62_12
theorem t_62_9 : e_Sn 62 9 (e_un n_62_9) := u_oldT (s_putf (ty0 := ey_2) (ok := e_okR) (C := er_2) (T := et_2) (N := 19) (ref := "Plateroomprinter$Engine") (index := 11) (ci := 2) (k := 2) hq_62 ho_62 ⟨rfl, by decide, ei_2, (List.mem_of_getElem? (i := 618) (by decide +kernel)), .inl rfl⟩ eo_2 en_2 e_oksA (.inr ⟨rfl, rfl, rfl⟩) (by decide +kernel) rfl : e_Sn 62 9 (o_putf (e_f1 2 2) e_okR 12)) t_62_12 (e_cg_putf (e_f1 2 2) e_okR)
noncomputable def n_62_7 : e_Y := u_tab (o_newa 0 (e_I 2147483648) 9)
theorem t_62_7 : e_Sn 62 7 (e_un n_62_7) := u_tabT (s_newI (List.mem_of_getElem? (i := 215) (by decide +kernel)) hq_62 (by decide +kernel) rfl : e_Sn 62 7 (o_newa 0 (e_I 2147483648) 9))
noncomputable def n_62_5 : e_Y := u_push (.inl 2147483654) n_62_7
theorem t_62_5 : e_Sn 62 5 (e_un n_62_5) := u_pushT (s_bipush (n := (6)) hq_62 (by decide +kernel) rfl ⟨by decide +kernel, by decide +kernel⟩ : e_Sn 62 5 (o_push (.inl 2147483654) 7)) t_62_7
noncomputable def n_62_4 : e_Y := u_ld f_okA f_l0 n_62_5
theorem t_62_4 : e_Sn 62 4 (e_un n_62_4) := u_ldAT f_l0_eq (s_aload (i := .aload_n 0) (len := 1) hq_62 (by decide +kernel) rfl (.inr ⟨0, rfl, rfl, rfl⟩) : e_Sn 62 4 (o_load e_okR 0 5)) t_62_5
noncomputable def n_62_1 : e_Y := u_tab (o_oinit 4)
theorem t_62_1 : e_Sn 62 1 (e_un n_62_1) := u_tabT (s_oinit (idx := 3) hq_62 ho_62 (List.mem_of_getElem? (i := 615) (by decide +kernel)) (List.mem_of_getElem? (i := 190) (by decide +kernel)) (List.mem_of_getElem? (i := 191) (by decide +kernel)) (by decide +kernel) rfl : e_Sn 62 1 (o_oinit 4))
noncomputable def n_62_0 : e_Y := u_ld f_okA f_l0 n_62_1
theorem t_62_0 : e_Sn 62 0 (e_un n_62_0) := u_ldAT f_l0_eq (s_aload (i := .aload_n 0) (len := 1) hq_62 (by decide +kernel) rfl (.inr ⟨0, rfl, rfl, rfl⟩) : e_Sn 62 0 (o_load e_okR 0 1)) t_62_1
noncomputable def e_tb_62 : e_X := (e_br 41 (e_br 17 (e_br 4 (e_lf 0 (e_un n_62_0)) (e_br 9 (e_lf 4 (e_un n_62_4)) (e_lf 9 (e_un n_62_9)))) (e_br 25 (e_lf 17 (e_un n_62_17)) (e_br 33 (e_lf 25 (e_un n_62_25)) (e_lf 33 (e_un n_62_33))))) (e_br 65 (e_br 49 (e_lf 41 (e_un n_62_41)) (e_br 57 (e_lf 49 (e_un n_62_49)) (e_lf 57 (e_un n_62_57)))) (e_br 81 (e_br 73 (e_lf 65 (e_un n_62_65)) (e_lf 73 (e_un n_62_73))) (e_br 89 (e_lf 81 (e_un n_62_81)) (e_lf 89 (e_un n_62_89))))))
theorem e_tk_62 : e_Tb 62 e_tb_62 := (e_brT (e_brT (e_brT (e_lfT t_62_0) (e_brT (e_lfT t_62_4) (e_lfT t_62_9))) (e_brT (e_lfT t_62_17) (e_brT (e_lfT t_62_25) (e_lfT t_62_33)))) (e_brT (e_brT (e_lfT t_62_41) (e_brT (e_lfT t_62_49) (e_lfT t_62_57))) (e_brT (e_brT (e_lfT t_62_65) (e_lfT t_62_73)) (e_brT (e_lfT t_62_81) (e_lfT t_62_89)))))
theorem hq_82 : (e_ml[82]?).map (·.2.1) = some prog_8_method_1_code := rfl
theorem ho_82 : (e_ml[82]?).map (·.1.cls) = some "Plateroomprinter$Path" := rfl
theorem hr_82 : (e_ml[82]?).map (·.2.2.2) = some none := rfl
noncomputable def n_82_36 : e_Y := u_tab (o_retv)
theorem t_82_36 : e_Sn 82 36 (e_un n_82_36) := u_tabT (s_vret hq_82 hr_82 (by decide +kernel) : e_Sn 82 36 (o_retv))
noncomputable def n_82_33 : e_Y := u_old (o_putf (e_f1 7 3) e_okR 36) n_82_36
theorem t_82_33 : e_Sn 82 33 (e_un n_82_33) := u_oldT (s_putf (ty0 := ey_7) (ok := e_okR) (C := er_7) (T := et_7) (N := 6) (ref := "Plateroomprinter$Path") (index := 21) (ci := 7) (k := 3) hq_82 ho_82 ⟨rfl, by decide, ei_7, (List.mem_of_getElem? (i := 291) (by decide +kernel)), .inl rfl⟩ eo_7 en_7 e_oksA (.inr ⟨rfl, rfl, rfl⟩) (by decide +kernel) rfl : e_Sn 82 33 (o_putf (e_f1 7 3) e_okR 36)) t_82_36 (e_cg_putf (e_f1 7 3) e_okR)
noncomputable def n_82_31 : e_Y := u_tab (o_newa 0 (e_I 2147483648) 33)
theorem t_82_31 : e_Sn 82 31 (e_un n_82_31) := u_tabT (s_newI (List.mem_of_getElem? (i := 215) (by decide +kernel)) hq_82 (by decide +kernel) rfl : e_Sn 82 31 (o_newa 0 (e_I 2147483648) 33))
noncomputable def n_82_29 : e_Y := u_push (.inl 2147483768) n_82_31
theorem t_82_29 : e_Sn 82 29 (e_un n_82_29) := u_pushT (s_bipush (n := (120)) hq_82 (by decide +kernel) rfl ⟨by decide +kernel, by decide +kernel⟩ : e_Sn 82 29 (o_push (.inl 2147483768) 31)) t_82_31
noncomputable def n_82_28 : e_Y := u_ld f_okA f_l0 n_82_29
theorem t_82_28 : e_Sn 82 28 (e_un n_82_28) := u_ldAT f_l0_eq (s_aload (i := .aload_n 0) (len := 1) hq_82 (by decide +kernel) rfl (.inr ⟨0, rfl, rfl, rfl⟩) : e_Sn 82 28 (o_load e_okR 0 29)) t_82_29
noncomputable def n_82_25 : e_Y := u_old (o_putf (e_f1 7 2) e_okR 28) n_82_28
theorem t_82_25 : e_Sn 82 25 (e_un n_82_25) := u_oldT (s_putf (ty0 := ey_7) (ok := e_okR) (C := er_7) (T := et_7) (N := 6) (ref := "Plateroomprinter$Path") (index := 18) (ci := 7) (k := 2) hq_82 ho_82 ⟨rfl, by decide, ei_7, (List.mem_of_getElem? (i := 290) (by decide +kernel)), .inl rfl⟩ eo_7 en_7 e_oksA (.inr ⟨rfl, rfl, rfl⟩) (by decide +kernel) rfl : e_Sn 82 25 (o_putf (e_f1 7 2) e_okR 28)) t_82_28 (e_cg_putf (e_f1 7 2) e_okR)
noncomputable def n_82_23 : e_Y := u_tab (o_newa 0 (e_I 2147483648) 25)
theorem t_82_23 : e_Sn 82 23 (e_un n_82_23) := u_tabT (s_newI (List.mem_of_getElem? (i := 215) (by decide +kernel)) hq_82 (by decide +kernel) rfl : e_Sn 82 23 (o_newa 0 (e_I 2147483648) 25))
noncomputable def n_82_21 : e_Y := u_push (.inl 2147483768) n_82_23
theorem t_82_21 : e_Sn 82 21 (e_un n_82_21) := u_pushT (s_bipush (n := (120)) hq_82 (by decide +kernel) rfl ⟨by decide +kernel, by decide +kernel⟩ : e_Sn 82 21 (o_push (.inl 2147483768) 23)) t_82_23
noncomputable def n_82_20 : e_Y := u_ld f_okA f_l0 n_82_21
theorem t_82_20 : e_Sn 82 20 (e_un n_82_20) := u_ldAT f_l0_eq (s_aload (i := .aload_n 0) (len := 1) hq_82 (by decide +kernel) rfl (.inr ⟨0, rfl, rfl, rfl⟩) : e_Sn 82 20 (o_load e_okR 0 21)) t_82_21
noncomputable def n_82_17 : e_Y := u_old (o_putf (e_f1 7 1) e_okR 20) n_82_20
theorem t_82_17 : e_Sn 82 17 (e_un n_82_17) := u_oldT (s_putf (ty0 := ey_7) (ok := e_okR) (C := er_7) (T := et_7) (N := 6) (ref := "Plateroomprinter$Path") (index := 15) (ci := 7) (k := 1) hq_82 ho_82 ⟨rfl, by decide, ei_7, (List.mem_of_getElem? (i := 288) (by decide +kernel)), .inl rfl⟩ eo_7 en_7 e_oksA (.inr ⟨rfl, rfl, rfl⟩) (by decide +kernel) rfl : e_Sn 82 17 (o_putf (e_f1 7 1) e_okR 20)) t_82_20 (e_cg_putf (e_f1 7 1) e_okR)
noncomputable def n_82_15 : e_Y := u_tab (o_newa 0 (e_I 2147483648) 17)
theorem t_82_15 : e_Sn 82 15 (e_un n_82_15) := u_tabT (s_newI (List.mem_of_getElem? (i := 215) (by decide +kernel)) hq_82 (by decide +kernel) rfl : e_Sn 82 15 (o_newa 0 (e_I 2147483648) 17))
noncomputable def n_82_13 : e_Y := u_push (.inl 2147483768) n_82_15
theorem t_82_13 : e_Sn 82 13 (e_un n_82_13) := u_pushT (s_bipush (n := (120)) hq_82 (by decide +kernel) rfl ⟨by decide +kernel, by decide +kernel⟩ : e_Sn 82 13 (o_push (.inl 2147483768) 15)) t_82_15
noncomputable def n_82_12 : e_Y := u_ld f_okA f_l0 n_82_13
theorem t_82_12 : e_Sn 82 12 (e_un n_82_12) := u_ldAT f_l0_eq (s_aload (i := .aload_n 0) (len := 1) hq_82 (by decide +kernel) rfl (.inr ⟨0, rfl, rfl, rfl⟩) : e_Sn 82 12 (o_load e_okR 0 13)) t_82_13
noncomputable def n_82_9 : e_Y := u_old (o_putf (e_f1 7 0) e_okR 12) n_82_12
theorem t_82_9 : e_Sn 82 9 (e_un n_82_9) := u_oldT (s_putf (ty0 := ey_7) (ok := e_okR) (C := er_7) (T := et_7) (N := 6) (ref := "Plateroomprinter$Path") (index := 9) (ci := 7) (k := 0) hq_82 ho_82 ⟨rfl, by decide, ei_7, (List.mem_of_getElem? (i := 286) (by decide +kernel)), .inl rfl⟩ eo_7 en_7 e_oksA (.inr ⟨rfl, rfl, rfl⟩) (by decide +kernel) rfl : e_Sn 82 9 (o_putf (e_f1 7 0) e_okR 12)) t_82_12 (e_cg_putf (e_f1 7 0) e_okR)
noncomputable def n_82_7 : e_Y := u_tab (o_newa 0 (e_I 2147483648) 9)
theorem t_82_7 : e_Sn 82 7 (e_un n_82_7) := u_tabT (s_newI (List.mem_of_getElem? (i := 215) (by decide +kernel)) hq_82 (by decide +kernel) rfl : e_Sn 82 7 (o_newa 0 (e_I 2147483648) 9))
noncomputable def n_82_5 : e_Y := u_push (.inl 2147483768) n_82_7
theorem t_82_5 : e_Sn 82 5 (e_un n_82_5) := u_pushT (s_bipush (n := (120)) hq_82 (by decide +kernel) rfl ⟨by decide +kernel, by decide +kernel⟩ : e_Sn 82 5 (o_push (.inl 2147483768) 7)) t_82_7
noncomputable def n_82_4 : e_Y := u_ld f_okA f_l0 n_82_5
theorem t_82_4 : e_Sn 82 4 (e_un n_82_4) := u_ldAT f_l0_eq (s_aload (i := .aload_n 0) (len := 1) hq_82 (by decide +kernel) rfl (.inr ⟨0, rfl, rfl, rfl⟩) : e_Sn 82 4 (o_load e_okR 0 5)) t_82_5
noncomputable def n_82_1 : e_Y := u_tab (o_oinit 4)
theorem t_82_1 : e_Sn 82 1 (e_un n_82_1) := u_tabT (s_oinit (idx := 3) hq_82 ho_82 (List.mem_of_getElem? (i := 285) (by decide +kernel)) (List.mem_of_getElem? (i := 190) (by decide +kernel)) (List.mem_of_getElem? (i := 191) (by decide +kernel)) (by decide +kernel) rfl : e_Sn 82 1 (o_oinit 4))
noncomputable def n_82_0 : e_Y := u_ld f_okA f_l0 n_82_1
theorem t_82_0 : e_Sn 82 0 (e_un n_82_0) := u_ldAT f_l0_eq (s_aload (i := .aload_n 0) (len := 1) hq_82 (by decide +kernel) rfl (.inr ⟨0, rfl, rfl, rfl⟩) : e_Sn 82 0 (o_load e_okR 0 1)) t_82_1
noncomputable def e_tb_82 : e_X := (e_br 17 (e_br 4 (e_lf 0 (e_un n_82_0)) (e_br 9 (e_lf 4 (e_un n_82_4)) (e_lf 9 (e_un n_82_9)))) (e_br 25 (e_lf 17 (e_un n_82_17)) (e_br 33 (e_lf 25 (e_un n_82_25)) (e_lf 33 (e_un n_82_33)))))
theorem e_tk_82 : e_Tb 82 e_tb_82 := (e_brT (e_brT (e_lfT t_82_0) (e_brT (e_lfT t_82_4) (e_lfT t_82_9))) (e_brT (e_lfT t_82_17) (e_brT (e_lfT t_82_25) (e_lfT t_82_33))))
theorem hq_80 : (e_ml[80]?).map (·.2.1) = some prog_7_method_1_code := rfl
theorem ho_80 : (e_ml[80]?).map (·.1.cls) = some "Plateroomprinter$Painter" := rfl
theorem hr_80 : (e_ml[80]?).map (·.2.2.2) = some none := rfl
noncomputable def n_80_87 : e_Y := u_tab (o_retv)
theorem t_80_87 : e_Sn 80 87 (e_un n_80_87) := u_tabT (s_vret hq_80 hr_80 (by decide +kernel) : e_Sn 80 87 (o_retv))
noncomputable def n_80_84 : e_Y := u_old (o_putf (e_f1 6 2) e_okR 87) n_80_87
theorem t_80_84 : e_Sn 80 84 (e_un n_80_84) := u_oldT (s_putf (ty0 := ey_6) (ok := e_okR) (C := er_6) (T := et_6) (N := 17) (ref := "Plateroomprinter$Painter") (index := 51) (ci := 6) (k := 2) hq_80 ho_80 ⟨rfl, by decide, ei_6, (List.mem_of_getElem? (i := 560) (by decide +kernel)), .inl rfl⟩ eo_6 en_6 e_oksR (.inr ⟨rfl, rfl, rfl⟩) (by decide +kernel) rfl : e_Sn 80 84 (o_putf (e_f1 6 2) e_okR 87)) t_80_87 (e_cg_putf (e_f1 6 2) e_okR)
noncomputable def n_80_83 : e_Y := u_ld f_okA f_l2 n_80_84
theorem t_80_83 : e_Sn 80 83 (e_un n_80_83) := u_ldAT f_l2_eq (s_aload (i := .aload_n 2) (len := 1) hq_80 (by decide +kernel) rfl (.inr ⟨2, rfl, rfl, rfl⟩) : e_Sn 80 83 (o_load e_okR 2 84)) t_80_84
noncomputable def n_80_82 : e_Y := u_ld f_okA f_l0 n_80_83
theorem t_80_82 : e_Sn 80 82 (e_un n_80_82) := u_ldAT f_l0_eq (s_aload (i := .aload_n 0) (len := 1) hq_80 (by decide +kernel) rfl (.inr ⟨0, rfl, rfl, rfl⟩) : e_Sn 80 82 (o_load e_okR 0 83)) t_80_83
noncomputable def n_80_79 : e_Y := u_old (o_putf (e_f1 6 1) e_okR 82) n_80_82
theorem t_80_79 : e_Sn 80 79 (e_un n_80_79) := u_oldT (s_putf (ty0 := ey_6) (ok := e_okR) (C := er_6) (T := et_6) (N := 17) (ref := "Plateroomprinter$Painter") (index := 50) (ci := 6) (k := 1) hq_80 ho_80 ⟨rfl, by decide, ei_6, (List.mem_of_getElem? (i := 559) (by decide +kernel)), .inl rfl⟩ eo_6 en_6 e_oksR (.inr ⟨rfl, rfl, rfl⟩) (by decide +kernel) rfl : e_Sn 80 79 (o_putf (e_f1 6 1) e_okR 82)) t_80_82 (e_cg_putf (e_f1 6 1) e_okR)
noncomputable def n_80_76 : e_Y := u_getf 11 2 (u_old (o_getf (e_f1 11 2) 79) n_80_79) n_80_79
theorem t_80_76 : e_Sn 80 76 (e_un n_80_76) := u_getfT (s_getf (C := er_11) (T := et_11) (N := 15) (ref := "Plateroomprinter$World") (index := 44) (ci := 11) (k := 2) hq_80 ho_80 ⟨rfl, by decide, ei_11, (List.mem_of_getElem? (i := 466) (by decide +kernel)), .inl rfl⟩ (by decide +kernel) rfl : e_Sn 80 76 (o_getf (e_f1 11 2) 79)) t_80_79
noncomputable def n_80_75 : e_Y := u_ld f_okA f_l1 n_80_76
theorem t_80_75 : e_Sn 80 75 (e_un n_80_75) := u_ldAT f_l1_eq (s_aload (i := .aload_n 1) (len := 1) hq_80 (by decide +kernel) rfl (.inr ⟨1, rfl, rfl, rfl⟩) : e_Sn 80 75 (o_load e_okR 1 76)) t_80_76
noncomputable def n_80_74 : e_Y := u_ld f_okA f_l0 n_80_75
theorem t_80_74 : e_Sn 80 74 (e_un n_80_74) := u_ldAT f_l0_eq (s_aload (i := .aload_n 0) (len := 1) hq_80 (by decide +kernel) rfl (.inr ⟨0, rfl, rfl, rfl⟩) : e_Sn 80 74 (o_load e_okR 0 75)) t_80_75
noncomputable def n_80_71 : e_Y := u_old (o_putf (e_f1 6 0) e_okR 74) n_80_74
theorem t_80_71 : e_Sn 80 71 (e_un n_80_71) := u_oldT (s_putf (ty0 := ey_6) (ok := e_okR) (C := er_6) (T := et_6) (N := 17) (ref := "Plateroomprinter$Painter") (index := 40) (ci := 6) (k := 0) hq_80 ho_80 ⟨rfl, by decide, ei_6, (List.mem_of_getElem? (i := 558) (by decide +kernel)), .inl rfl⟩ eo_6 en_6 e_oksR (.inr ⟨rfl, rfl, rfl⟩) (by decide +kernel) rfl : e_Sn 80 71 (o_putf (e_f1 6 0) e_okR 74)) t_80_74 (e_cg_putf (e_f1 6 0) e_okR)
noncomputable def n_80_70 : e_Y := u_ld f_okA f_l1 n_80_71
theorem t_80_70 : e_Sn 80 70 (e_un n_80_70) := u_ldAT f_l1_eq (s_aload (i := .aload_n 1) (len := 1) hq_80 (by decide +kernel) rfl (.inr ⟨1, rfl, rfl, rfl⟩) : e_Sn 80 70 (o_load e_okR 1 71)) t_80_71
noncomputable def n_80_69 : e_Y := u_ld f_okA f_l0 n_80_70
theorem t_80_69 : e_Sn 80 69 (e_un n_80_69) := u_ldAT f_l0_eq (s_aload (i := .aload_n 0) (len := 1) hq_80 (by decide +kernel) rfl (.inr ⟨0, rfl, rfl, rfl⟩) : e_Sn 80 69 (o_load e_okR 0 70)) t_80_70
noncomputable def n_80_66 : e_Y := u_old (o_putf (e_f1 6 15) e_okR 69) n_80_69
theorem t_80_66 : e_Sn 80 66 (e_un n_80_66) := u_oldT (s_putf (ty0 := ey_6) (ok := e_okR) (C := er_6) (T := et_6) (N := 17) (ref := "Plateroomprinter$Painter") (index := 37) (ci := 6) (k := 15) hq_80 ho_80 ⟨rfl, by decide, ei_6, (List.mem_of_getElem? (i := 573) (by decide +kernel)), .inl rfl⟩ eo_6 en_6 e_oksA (.inr ⟨rfl, rfl, rfl⟩) (by decide +kernel) rfl : e_Sn 80 66 (o_putf (e_f1 6 15) e_okR 69)) t_80_69 (e_cg_putf (e_f1 6 15) e_okR)
noncomputable def n_80_64 : e_Y := u_tab (o_newa 0 (e_I 2147483648) 66)
theorem t_80_64 : e_Sn 80 64 (e_un n_80_64) := u_tabT (s_newI (List.mem_of_getElem? (i := 215) (by decide +kernel)) hq_80 (by decide +kernel) rfl : e_Sn 80 64 (o_newa 0 (e_I 2147483648) 66))
noncomputable def n_80_62 : e_Y := u_push (.inl 2147483664) n_80_64
theorem t_80_62 : e_Sn 80 62 (e_un n_80_62) := u_pushT (s_bipush (n := (16)) hq_80 (by decide +kernel) rfl ⟨by decide +kernel, by decide +kernel⟩ : e_Sn 80 62 (o_push (.inl 2147483664) 64)) t_80_64
noncomputable def n_80_61 : e_Y := u_ld f_okA f_l0 n_80_62
theorem t_80_61 : e_Sn 80 61 (e_un n_80_61) := u_ldAT f_l0_eq (s_aload (i := .aload_n 0) (len := 1) hq_80 (by decide +kernel) rfl (.inr ⟨0, rfl, rfl, rfl⟩) : e_Sn 80 61 (o_load e_okR 0 62)) t_80_62
noncomputable def n_80_58 : e_Y := u_old (o_putf (e_f1 6 14) e_okR 61) n_80_61
theorem t_80_58 : e_Sn 80 58 (e_un n_80_58) := u_oldT (s_putf (ty0 := ey_6) (ok := e_okR) (C := er_6) (T := et_6) (N := 17) (ref := "Plateroomprinter$Painter") (index := 34) (ci := 6) (k := 14) hq_80 ho_80 ⟨rfl, by decide, ei_6, (List.mem_of_getElem? (i := 572) (by decide +kernel)), .inl rfl⟩ eo_6 en_6 e_oksA (.inr ⟨rfl, rfl, rfl⟩) (by decide +kernel) rfl : e_Sn 80 58 (o_putf (e_f1 6 14) e_okR 61)) t_80_61 (e_cg_putf (e_f1 6 14) e_okR)
noncomputable def n_80_56 : e_Y := u_tab (o_newa 0 (e_I 2147483648) 58)
theorem t_80_56 : e_Sn 80 56 (e_un n_80_56) := u_tabT (s_newI (List.mem_of_getElem? (i := 215) (by decide +kernel)) hq_80 (by decide +kernel) rfl : e_Sn 80 56 (o_newa 0 (e_I 2147483648) 58))
noncomputable def n_80_54 : e_Y := u_push (.inl 2147483664) n_80_56
theorem t_80_54 : e_Sn 80 54 (e_un n_80_54) := u_pushT (s_bipush (n := (16)) hq_80 (by decide +kernel) rfl ⟨by decide +kernel, by decide +kernel⟩ : e_Sn 80 54 (o_push (.inl 2147483664) 56)) t_80_56
noncomputable def n_80_53 : e_Y := u_ld f_okA f_l0 n_80_54
theorem t_80_53 : e_Sn 80 53 (e_un n_80_53) := u_ldAT f_l0_eq (s_aload (i := .aload_n 0) (len := 1) hq_80 (by decide +kernel) rfl (.inr ⟨0, rfl, rfl, rfl⟩) : e_Sn 80 53 (o_load e_okR 0 54)) t_80_54
noncomputable def n_80_50 : e_Y := u_old (o_putf (e_f1 6 13) e_okR 53) n_80_53
theorem t_80_50 : e_Sn 80 50 (e_un n_80_50) := u_oldT (s_putf (ty0 := ey_6) (ok := e_okR) (C := er_6) (T := et_6) (N := 17) (ref := "Plateroomprinter$Painter") (index := 31) (ci := 6) (k := 13) hq_80 ho_80 ⟨rfl, by decide, ei_6, (List.mem_of_getElem? (i := 571) (by decide +kernel)), .inl rfl⟩ eo_6 en_6 e_oksA (.inr ⟨rfl, rfl, rfl⟩) (by decide +kernel) rfl : e_Sn 80 50 (o_putf (e_f1 6 13) e_okR 53)) t_80_53 (e_cg_putf (e_f1 6 13) e_okR)
noncomputable def n_80_48 : e_Y := u_tab (o_newa 0 (e_I 2147483648) 50)
theorem t_80_48 : e_Sn 80 48 (e_un n_80_48) := u_tabT (s_newI (List.mem_of_getElem? (i := 215) (by decide +kernel)) hq_80 (by decide +kernel) rfl : e_Sn 80 48 (o_newa 0 (e_I 2147483648) 50))
noncomputable def n_80_46 : e_Y := u_push (.inl 2147483654) n_80_48
theorem t_80_46 : e_Sn 80 46 (e_un n_80_46) := u_pushT (s_bipush (n := (6)) hq_80 (by decide +kernel) rfl ⟨by decide +kernel, by decide +kernel⟩ : e_Sn 80 46 (o_push (.inl 2147483654) 48)) t_80_48
noncomputable def n_80_45 : e_Y := u_ld f_okA f_l0 n_80_46
theorem t_80_45 : e_Sn 80 45 (e_un n_80_45) := u_ldAT f_l0_eq (s_aload (i := .aload_n 0) (len := 1) hq_80 (by decide +kernel) rfl (.inr ⟨0, rfl, rfl, rfl⟩) : e_Sn 80 45 (o_load e_okR 0 46)) t_80_46
noncomputable def n_80_42 : e_Y := u_old (o_putf (e_f1 6 12) e_okR 45) n_80_45
theorem t_80_42 : e_Sn 80 42 (e_un n_80_42) := u_oldT (s_putf (ty0 := ey_6) (ok := e_okR) (C := er_6) (T := et_6) (N := 17) (ref := "Plateroomprinter$Painter") (index := 28) (ci := 6) (k := 12) hq_80 ho_80 ⟨rfl, by decide, ei_6, (List.mem_of_getElem? (i := 570) (by decide +kernel)), .inl rfl⟩ eo_6 en_6 e_oksA (.inr ⟨rfl, rfl, rfl⟩) (by decide +kernel) rfl : e_Sn 80 42 (o_putf (e_f1 6 12) e_okR 45)) t_80_45 (e_cg_putf (e_f1 6 12) e_okR)
noncomputable def n_80_40 : e_Y := u_tab (o_newa 0 (e_I 2147483648) 42)
theorem t_80_40 : e_Sn 80 40 (e_un n_80_40) := u_tabT (s_newI (List.mem_of_getElem? (i := 215) (by decide +kernel)) hq_80 (by decide +kernel) rfl : e_Sn 80 40 (o_newa 0 (e_I 2147483648) 42))
noncomputable def n_80_38 : e_Y := u_push (.inl 2147483696) n_80_40
theorem t_80_38 : e_Sn 80 38 (e_un n_80_38) := u_pushT (s_bipush (n := (48)) hq_80 (by decide +kernel) rfl ⟨by decide +kernel, by decide +kernel⟩ : e_Sn 80 38 (o_push (.inl 2147483696) 40)) t_80_40
noncomputable def n_80_37 : e_Y := u_ld f_okA f_l0 n_80_38
theorem t_80_37 : e_Sn 80 37 (e_un n_80_37) := u_ldAT f_l0_eq (s_aload (i := .aload_n 0) (len := 1) hq_80 (by decide +kernel) rfl (.inr ⟨0, rfl, rfl, rfl⟩) : e_Sn 80 37 (o_load e_okR 0 38)) t_80_38
noncomputable def n_80_34 : e_Y := u_old (o_putf (e_f1 6 11) e_okR 37) n_80_37
theorem t_80_34 : e_Sn 80 34 (e_un n_80_34) := u_oldT (s_putf (ty0 := ey_6) (ok := e_okR) (C := er_6) (T := et_6) (N := 17) (ref := "Plateroomprinter$Painter") (index := 25) (ci := 6) (k := 11) hq_80 ho_80 ⟨rfl, by decide, ei_6, (List.mem_of_getElem? (i := 569) (by decide +kernel)), .inl rfl⟩ eo_6 en_6 e_oksA (.inr ⟨rfl, rfl, rfl⟩) (by decide +kernel) rfl : e_Sn 80 34 (o_putf (e_f1 6 11) e_okR 37)) t_80_37 (e_cg_putf (e_f1 6 11) e_okR)
noncomputable def n_80_32 : e_Y := u_tab (o_newa 0 (e_I 2147483648) 34)
theorem t_80_32 : e_Sn 80 32 (e_un n_80_32) := u_tabT (s_newI (List.mem_of_getElem? (i := 215) (by decide +kernel)) hq_80 (by decide +kernel) rfl : e_Sn 80 32 (o_newa 0 (e_I 2147483648) 34))
noncomputable def n_80_31 : e_Y := u_push (.inl 2147483652) n_80_32
theorem t_80_31 : e_Sn 80 31 (e_un n_80_31) := u_pushT (s_iconst (n := (4)) hq_80 (by decide +kernel) rfl ⟨by decide +kernel, by decide +kernel⟩ : e_Sn 80 31 (o_push (.inl 2147483652) 32)) t_80_32
noncomputable def n_80_30 : e_Y := u_ld f_okA f_l0 n_80_31
theorem t_80_30 : e_Sn 80 30 (e_un n_80_30) := u_ldAT f_l0_eq (s_aload (i := .aload_n 0) (len := 1) hq_80 (by decide +kernel) rfl (.inr ⟨0, rfl, rfl, rfl⟩) : e_Sn 80 30 (o_load e_okR 0 31)) t_80_31
noncomputable def n_80_27 : e_Y := u_old (o_putf (e_f1 6 10) e_okR 30) n_80_30
theorem t_80_27 : e_Sn 80 27 (e_un n_80_27) := u_oldT (s_putf (ty0 := ey_6) (ok := e_okR) (C := er_6) (T := et_6) (N := 17) (ref := "Plateroomprinter$Painter") (index := 22) (ci := 6) (k := 10) hq_80 ho_80 ⟨rfl, by decide, ei_6, (List.mem_of_getElem? (i := 568) (by decide +kernel)), .inl rfl⟩ eo_6 en_6 e_oksA (.inr ⟨rfl, rfl, rfl⟩) (by decide +kernel) rfl : e_Sn 80 27 (o_putf (e_f1 6 10) e_okR 30)) t_80_30 (e_cg_putf (e_f1 6 10) e_okR)
noncomputable def n_80_25 : e_Y := u_tab (o_newa 0 (e_I 2147483648) 27)
theorem t_80_25 : e_Sn 80 25 (e_un n_80_25) := u_tabT (s_newI (List.mem_of_getElem? (i := 215) (by decide +kernel)) hq_80 (by decide +kernel) rfl : e_Sn 80 25 (o_newa 0 (e_I 2147483648) 27))
noncomputable def n_80_24 : e_Y := u_push (.inl 2147483652) n_80_25
theorem t_80_24 : e_Sn 80 24 (e_un n_80_24) := u_pushT (s_iconst (n := (4)) hq_80 (by decide +kernel) rfl ⟨by decide +kernel, by decide +kernel⟩ : e_Sn 80 24 (o_push (.inl 2147483652) 25)) t_80_25
noncomputable def n_80_23 : e_Y := u_ld f_okA f_l0 n_80_24
theorem t_80_23 : e_Sn 80 23 (e_un n_80_23) := u_ldAT f_l0_eq (s_aload (i := .aload_n 0) (len := 1) hq_80 (by decide +kernel) rfl (.inr ⟨0, rfl, rfl, rfl⟩) : e_Sn 80 23 (o_load e_okR 0 24)) t_80_24
noncomputable def n_80_20 : e_Y := u_old (o_putf (e_f1 6 9) e_okR 23) n_80_23
theorem t_80_20 : e_Sn 80 20 (e_un n_80_20) := u_oldT (s_putf (ty0 := ey_6) (ok := e_okR) (C := er_6) (T := et_6) (N := 17) (ref := "Plateroomprinter$Painter") (index := 18) (ci := 6) (k := 9) hq_80 ho_80 ⟨rfl, by decide, ei_6, (List.mem_of_getElem? (i := 567) (by decide +kernel)), .inl rfl⟩ eo_6 en_6 e_oksR (.inr ⟨rfl, rfl, rfl⟩) (by decide +kernel) rfl : e_Sn 80 20 (o_putf (e_f1 6 9) e_okR 23)) t_80_23 (e_cg_putf (e_f1 6 9) e_okR)
noncomputable def n_80_17 : e_Y := u_tab (o_callI 82 1 1 20)
theorem t_80_17 : e_Sn 80 17 (e_un n_80_17) := u_tabT (s_callIN (host := "Plateroomprinter") (index := 17) hq_80 ho_80 hy_82 hp_82 hc_82 hi_82 hd_82 (List.mem_of_getElem? (i := 557) (by decide +kernel)) rfl rfl hs_82 (by decide +kernel) rfl : e_Sn 80 17 (o_callI 82 1 1 20))
noncomputable def n_80_16 : e_Y := u_old (o_dup 17) n_80_17
theorem t_80_16 : e_Sn 80 16 (e_un n_80_16) := u_oldT (s_dup hq_80 (by decide +kernel) rfl : e_Sn 80 16 (o_dup 17)) t_80_17 e_cg_dup
noncomputable def n_80_13 : e_Y := u_tab (o_new 7 6 ef_7 16)
theorem t_80_13 : e_Sn 80 13 (e_un n_80_13) := u_tabT (s_new (index := 15) (ci := 7) (N := 6) (C := er_7) (T := et_7) (ty0 := ey_7) (fv := eg_7) hq_80 ho_80 rfl ei_7 eo_7 (List.mem_of_getElem? (i := 556) (by decide +kernel)) (List.mem_of_getElem? (i := 281) (by decide +kernel)) (List.mem_of_getElem? (i := 145) (by decide +kernel)) eh_7 rfl (e_newrel ek_7) (by decide +kernel) rfl : e_Sn 80 13 (o_new 7 6 ef_7 16))
noncomputable def n_80_12 : e_Y := u_ld f_okA f_l0 n_80_13
theorem t_80_12 : e_Sn 80 12 (e_un n_80_12) := u_ldAT f_l0_eq (s_aload (i := .aload_n 0) (len := 1) hq_80 (by decide +kernel) rfl (.inr ⟨0, rfl, rfl, rfl⟩) : e_Sn 80 12 (o_load e_okR 0 13)) t_80_13
noncomputable def n_80_9 : e_Y := u_old (o_putf (e_f1 6 3) e_okR 12) n_80_12
theorem t_80_9 : e_Sn 80 9 (e_un n_80_9) := u_oldT (s_putf (ty0 := ey_6) (ok := e_okR) (C := er_6) (T := et_6) (N := 17) (ref := "Plateroomprinter$Painter") (index := 9) (ci := 6) (k := 3) hq_80 ho_80 ⟨rfl, by decide, ei_6, (List.mem_of_getElem? (i := 561) (by decide +kernel)), .inl rfl⟩ eo_6 en_6 e_oksA (.inr ⟨rfl, rfl, rfl⟩) (by decide +kernel) rfl : e_Sn 80 9 (o_putf (e_f1 6 3) e_okR 12)) t_80_12 (e_cg_putf (e_f1 6 3) e_okR)
noncomputable def n_80_7 : e_Y := u_tab (o_newa 0 (e_I 2147483648) 9)
theorem t_80_7 : e_Sn 80 7 (e_un n_80_7) := u_tabT (s_newI (List.mem_of_getElem? (i := 215) (by decide +kernel)) hq_80 (by decide +kernel) rfl : e_Sn 80 7 (o_newa 0 (e_I 2147483648) 9))
noncomputable def n_80_5 : e_Y := u_push (.inl 2147483680) n_80_7
theorem t_80_5 : e_Sn 80 5 (e_un n_80_5) := u_pushT (s_bipush (n := (32)) hq_80 (by decide +kernel) rfl ⟨by decide +kernel, by decide +kernel⟩ : e_Sn 80 5 (o_push (.inl 2147483680) 7)) t_80_7
noncomputable def n_80_4 : e_Y := u_ld f_okA f_l0 n_80_5
theorem t_80_4 : e_Sn 80 4 (e_un n_80_4) := u_ldAT f_l0_eq (s_aload (i := .aload_n 0) (len := 1) hq_80 (by decide +kernel) rfl (.inr ⟨0, rfl, rfl, rfl⟩) : e_Sn 80 4 (o_load e_okR 0 5)) t_80_5
noncomputable def n_80_1 : e_Y := u_tab (o_oinit 4)
theorem t_80_1 : e_Sn 80 1 (e_un n_80_1) := u_tabT (s_oinit (idx := 3) hq_80 ho_80 (List.mem_of_getElem? (i := 555) (by decide +kernel)) (List.mem_of_getElem? (i := 190) (by decide +kernel)) (List.mem_of_getElem? (i := 191) (by decide +kernel)) (by decide +kernel) rfl : e_Sn 80 1 (o_oinit 4))
noncomputable def n_80_0 : e_Y := u_ld f_okA f_l0 n_80_1
theorem t_80_0 : e_Sn 80 0 (e_un n_80_0) := u_ldAT f_l0_eq (s_aload (i := .aload_n 0) (len := 1) hq_80 (by decide +kernel) rfl (.inr ⟨0, rfl, rfl, rfl⟩) : e_Sn 80 0 (o_load e_okR 0 1)) t_80_1
noncomputable def e_tb_80 : e_X := (e_br 27 (e_br 9 (e_br 4 (e_lf 0 (e_un n_80_0)) (e_lf 4 (e_un n_80_4))) (e_br 16 (e_lf 9 (e_un n_80_9)) (e_br 20 (e_lf 16 (e_un n_80_16)) (e_lf 20 (e_un n_80_20))))) (e_br 50 (e_br 34 (e_lf 27 (e_un n_80_27)) (e_br 42 (e_lf 34 (e_un n_80_34)) (e_lf 42 (e_un n_80_42)))) (e_br 58 (e_lf 50 (e_un n_80_50)) (e_br 66 (e_lf 58 (e_un n_80_58)) (e_lf 66 (e_un n_80_66))))))
theorem e_tk_80 : e_Tb 80 e_tb_80 := (e_brT (e_brT (e_brT (e_lfT t_80_0) (e_lfT t_80_4)) (e_brT (e_lfT t_80_9) (e_brT (e_lfT t_80_16) (e_lfT t_80_20)))) (e_brT (e_brT (e_lfT t_80_27) (e_brT (e_lfT t_80_34) (e_lfT t_80_42))) (e_brT (e_lfT t_80_50) (e_brT (e_lfT t_80_58) (e_lfT t_80_66)))))
theorem hq_85 : (e_ml[85]?).map (·.2.1) = some prog_9_method_1_code := rfl
theorem ho_85 : (e_ml[85]?).map (·.1.cls) = some "Plateroomprinter$Raster" := rfl
theorem hr_85 : (e_ml[85]?).map (·.2.2.2) = some none := rfl
noncomputable def n_85_24 : e_Y := u_tab (o_retv)
theorem t_85_24 : e_Sn 85 24 (e_un n_85_24) := u_tabT (s_vret hq_85 hr_85 (by decide +kernel) : e_Sn 85 24 (o_retv))
noncomputable def n_85_21 : e_Y := u_old (o_putf (e_f1 8 2) e_okI 24) n_85_24
theorem t_85_21 : e_Sn 85 21 (e_un n_85_21) := u_oldT (s_putf (ty0 := ey_8) (ok := e_okI) (C := er_8) (T := et_8) (N := 3) (ref := "Plateroomprinter$Raster") (index := 19) (ci := 8) (k := 2) hq_85 ho_85 ⟨rfl, by decide, ei_8, (List.mem_of_getElem? (i := 542) (by decide +kernel)), .inl rfl⟩ eo_8 en_8 e_oksI (.inl rfl) (by decide +kernel) rfl : e_Sn 85 21 (o_putf (e_f1 8 2) e_okI 24)) t_85_24 (e_cg_putf (e_f1 8 2) e_okI)
noncomputable def n_85_20 : e_Y := u_push (.inl 2147483647) n_85_21
theorem t_85_20 : e_Sn 85 20 (e_un n_85_20) := u_pushT (s_iconst (n := (-1)) hq_85 (by decide +kernel) rfl ⟨by decide +kernel, by decide +kernel⟩ : e_Sn 85 20 (o_push (.inl 2147483647) 21)) t_85_21
noncomputable def n_85_19 : e_Y := u_ld f_okA f_l0 n_85_20
theorem t_85_19 : e_Sn 85 19 (e_un n_85_19) := u_ldAT f_l0_eq (s_aload (i := .aload_n 0) (len := 1) hq_85 (by decide +kernel) rfl (.inr ⟨0, rfl, rfl, rfl⟩) : e_Sn 85 19 (o_load e_okR 0 20)) t_85_20
noncomputable def n_85_16 : e_Y := u_old (o_putf (e_f1 8 1) e_okI 19) n_85_19
theorem t_85_16 : e_Sn 85 16 (e_un n_85_16) := u_oldT (s_putf (ty0 := ey_8) (ok := e_okI) (C := er_8) (T := et_8) (N := 3) (ref := "Plateroomprinter$Raster") (index := 15) (ci := 8) (k := 1) hq_85 ho_85 ⟨rfl, by decide, ei_8, (List.mem_of_getElem? (i := 541) (by decide +kernel)), .inl rfl⟩ eo_8 en_8 e_oksI (.inl rfl) (by decide +kernel) rfl : e_Sn 85 16 (o_putf (e_f1 8 1) e_okI 19)) t_85_19 (e_cg_putf (e_f1 8 1) e_okI)
noncomputable def n_85_14 : e_Y := u_push (.inl 2147483680) n_85_16
theorem t_85_14 : e_Sn 85 14 (e_un n_85_14) := u_pushT (s_bipush (n := (32)) hq_85 (by decide +kernel) rfl ⟨by decide +kernel, by decide +kernel⟩ : e_Sn 85 14 (o_push (.inl 2147483680) 16)) t_85_16
noncomputable def n_85_13 : e_Y := u_ld f_okA f_l0 n_85_14
theorem t_85_13 : e_Sn 85 13 (e_un n_85_13) := u_ldAT f_l0_eq (s_aload (i := .aload_n 0) (len := 1) hq_85 (by decide +kernel) rfl (.inr ⟨0, rfl, rfl, rfl⟩) : e_Sn 85 13 (o_load e_okR 0 14)) t_85_14
noncomputable def n_85_10 : e_Y := u_old (o_putf (e_f1 8 0) e_okR 13) n_85_13
theorem t_85_10 : e_Sn 85 10 (e_un n_85_10) := u_oldT (s_putf (ty0 := ey_8) (ok := e_okR) (C := er_8) (T := et_8) (N := 3) (ref := "Plateroomprinter$Raster") (index := 9) (ci := 8) (k := 0) hq_85 ho_85 ⟨rfl, by decide, ei_8, (List.mem_of_getElem? (i := 540) (by decide +kernel)), .inl rfl⟩ eo_8 en_8 e_oksA (.inr ⟨rfl, rfl, rfl⟩) (by decide +kernel) rfl : e_Sn 85 10 (o_putf (e_f1 8 0) e_okR 13)) t_85_13 (e_cg_putf (e_f1 8 0) e_okR)
noncomputable def n_85_8 : e_Y := u_tab (o_newa 0 (e_I 2147483648) 10)
theorem t_85_8 : e_Sn 85 8 (e_un n_85_8) := u_tabT (s_newI (List.mem_of_getElem? (i := 215) (by decide +kernel)) hq_85 (by decide +kernel) rfl : e_Sn 85 8 (o_newa 0 (e_I 2147483648) 10))
noncomputable def n_85_5 : e_Y := u_push (.inl 2147484672) n_85_8
theorem t_85_5 : e_Sn 85 5 (e_un n_85_5) := u_pushT (s_sipush (n := (1024)) hq_85 (by decide +kernel) rfl ⟨by decide +kernel, by decide +kernel⟩ : e_Sn 85 5 (o_push (.inl 2147484672) 8)) t_85_8
noncomputable def n_85_4 : e_Y := u_ld f_okA f_l0 n_85_5
theorem t_85_4 : e_Sn 85 4 (e_un n_85_4) := u_ldAT f_l0_eq (s_aload (i := .aload_n 0) (len := 1) hq_85 (by decide +kernel) rfl (.inr ⟨0, rfl, rfl, rfl⟩) : e_Sn 85 4 (o_load e_okR 0 5)) t_85_5
noncomputable def n_85_1 : e_Y := u_tab (o_oinit 4)
theorem t_85_1 : e_Sn 85 1 (e_un n_85_1) := u_tabT (s_oinit (idx := 3) hq_85 ho_85 (List.mem_of_getElem? (i := 539) (by decide +kernel)) (List.mem_of_getElem? (i := 190) (by decide +kernel)) (List.mem_of_getElem? (i := 191) (by decide +kernel)) (by decide +kernel) rfl : e_Sn 85 1 (o_oinit 4))
noncomputable def n_85_0 : e_Y := u_ld f_okA f_l0 n_85_1
theorem t_85_0 : e_Sn 85 0 (e_un n_85_0) := u_ldAT f_l0_eq (s_aload (i := .aload_n 0) (len := 1) hq_85 (by decide +kernel) rfl (.inr ⟨0, rfl, rfl, rfl⟩) : e_Sn 85 0 (o_load e_okR 0 1)) t_85_1
noncomputable def e_tb_85 : e_X := (e_br 4 (e_lf 0 (e_un n_85_0)) (e_br 10 (e_lf 4 (e_un n_85_4)) (e_lf 10 (e_un n_85_10))))
theorem e_tk_85 : e_Tb 85 e_tb_85 := (e_brT (e_lfT t_85_0) (e_brT (e_lfT t_85_4) (e_lfT t_85_10)))
theorem hq_90 : (e_ml[90]?).map (·.2.1) = some prog_10_method_1_code := rfl
theorem ho_90 : (e_ml[90]?).map (·.1.cls) = some "Plateroomprinter$Sheet" := rfl
theorem hr_90 : (e_ml[90]?).map (·.2.2.2) = some none := rfl
noncomputable def n_90_13 : e_Y := u_tab (o_retv)
theorem t_90_13 : e_Sn 90 13 (e_un n_90_13) := u_tabT (s_vret hq_90 hr_90 (by decide +kernel) : e_Sn 90 13 (o_retv))
noncomputable def n_90_10 : e_Y := u_old (o_putf (e_f1 9 0) e_okR 13) n_90_13
theorem t_90_10 : e_Sn 90 10 (e_un n_90_10) := u_oldT (s_putf (ty0 := ey_9) (ok := e_okR) (C := er_9) (T := et_9) (N := 1) (ref := "Plateroomprinter$Sheet") (index := 9) (ci := 9) (k := 0) hq_90 ho_90 ⟨rfl, by decide, ei_9, (List.mem_of_getElem? (i := 381) (by decide +kernel)), .inl rfl⟩ eo_9 en_9 e_oksA (.inr ⟨rfl, rfl, rfl⟩) (by decide +kernel) rfl : e_Sn 90 10 (o_putf (e_f1 9 0) e_okR 13)) t_90_13 (e_cg_putf (e_f1 9 0) e_okR)
noncomputable def n_90_8 : e_Y := u_tab (o_newa 0 (e_I 2147483648) 10)
theorem t_90_8 : e_Sn 90 8 (e_un n_90_8) := u_tabT (s_newI (List.mem_of_getElem? (i := 215) (by decide +kernel)) hq_90 (by decide +kernel) rfl : e_Sn 90 8 (o_newa 0 (e_I 2147483648) 10))
noncomputable def n_90_5 : e_Y := u_push (.inl 2147483776) n_90_8
theorem t_90_5 : e_Sn 90 5 (e_un n_90_5) := u_pushT (s_sipush (n := (128)) hq_90 (by decide +kernel) rfl ⟨by decide +kernel, by decide +kernel⟩ : e_Sn 90 5 (o_push (.inl 2147483776) 8)) t_90_8
noncomputable def n_90_4 : e_Y := u_ld f_okA f_l0 n_90_5
theorem t_90_4 : e_Sn 90 4 (e_un n_90_4) := u_ldAT f_l0_eq (s_aload (i := .aload_n 0) (len := 1) hq_90 (by decide +kernel) rfl (.inr ⟨0, rfl, rfl, rfl⟩) : e_Sn 90 4 (o_load e_okR 0 5)) t_90_5
noncomputable def n_90_1 : e_Y := u_tab (o_oinit 4)
theorem t_90_1 : e_Sn 90 1 (e_un n_90_1) := u_tabT (s_oinit (idx := 3) hq_90 ho_90 (List.mem_of_getElem? (i := 380) (by decide +kernel)) (List.mem_of_getElem? (i := 190) (by decide +kernel)) (List.mem_of_getElem? (i := 191) (by decide +kernel)) (by decide +kernel) rfl : e_Sn 90 1 (o_oinit 4))
noncomputable def n_90_0 : e_Y := u_ld f_okA f_l0 n_90_1
theorem t_90_0 : e_Sn 90 0 (e_un n_90_0) := u_ldAT f_l0_eq (s_aload (i := .aload_n 0) (len := 1) hq_90 (by decide +kernel) rfl (.inr ⟨0, rfl, rfl, rfl⟩) : e_Sn 90 0 (o_load e_okR 0 1)) t_90_1
noncomputable def e_tb_90 : e_X := (e_br 4 (e_lf 0 (e_un n_90_0)) (e_br 10 (e_lf 4 (e_un n_90_4)) (e_lf 10 (e_un n_90_10))))
theorem e_tk_90 : e_Tb 90 e_tb_90 := (e_brT (e_lfT t_90_0) (e_brT (e_lfT t_90_4) (e_lfT t_90_10)))
theorem hq_68 : (e_ml[68]?).map (·.2.1) = some prog_4_method_1_code := rfl
theorem ho_68 : (e_ml[68]?).map (·.1.cls) = some "Plateroomprinter$Figures" := rfl
theorem hr_68 : (e_ml[68]?).map (·.2.2.2) = some none := rfl
noncomputable def n_68_38 : e_Y := u_tab (o_retv)
theorem t_68_38 : e_Sn 68 38 (e_un n_68_38) := u_tabT (s_vret hq_68 hr_68 (by decide +kernel) : e_Sn 68 38 (o_retv))
noncomputable def n_68_35 : e_Y := u_old (o_putf (e_f1 3 3) e_okR 38) n_68_38
theorem t_68_35 : e_Sn 68 35 (e_un n_68_35) := u_oldT (s_putf (ty0 := ey_3) (ok := e_okR) (C := er_3) (T := et_3) (N := 5) (ref := "Plateroomprinter$Figures") (index := 21) (ci := 3) (k := 3) hq_68 ho_68 ⟨rfl, by decide, ei_3, (List.mem_of_getElem? (i := 398) (by decide +kernel)), .inl rfl⟩ eo_3 en_3 e_oksA (.inr ⟨rfl, rfl, rfl⟩) (by decide +kernel) rfl : e_Sn 68 35 (o_putf (e_f1 3 3) e_okR 38)) t_68_38 (e_cg_putf (e_f1 3 3) e_okR)
noncomputable def n_68_33 : e_Y := u_tab (o_newa 0 (e_I 2147483648) 35)
theorem t_68_33 : e_Sn 68 33 (e_un n_68_33) := u_tabT (s_newI (List.mem_of_getElem? (i := 215) (by decide +kernel)) hq_68 (by decide +kernel) rfl : e_Sn 68 33 (o_newa 0 (e_I 2147483648) 35))
noncomputable def n_68_31 : e_Y := u_push (.inl 2147483708) n_68_33
theorem t_68_31 : e_Sn 68 31 (e_un n_68_31) := u_pushT (s_bipush (n := (60)) hq_68 (by decide +kernel) rfl ⟨by decide +kernel, by decide +kernel⟩ : e_Sn 68 31 (o_push (.inl 2147483708) 33)) t_68_33
noncomputable def n_68_30 : e_Y := u_ld f_okA f_l0 n_68_31
theorem t_68_30 : e_Sn 68 30 (e_un n_68_30) := u_ldAT f_l0_eq (s_aload (i := .aload_n 0) (len := 1) hq_68 (by decide +kernel) rfl (.inr ⟨0, rfl, rfl, rfl⟩) : e_Sn 68 30 (o_load e_okR 0 31)) t_68_31
noncomputable def n_68_27 : e_Y := u_old (o_putf (e_f1 3 2) e_okR 30) n_68_30
theorem t_68_27 : e_Sn 68 27 (e_un n_68_27) := u_oldT (s_putf (ty0 := ey_3) (ok := e_okR) (C := er_3) (T := et_3) (N := 5) (ref := "Plateroomprinter$Figures") (index := 18) (ci := 3) (k := 2) hq_68 ho_68 ⟨rfl, by decide, ei_3, (List.mem_of_getElem? (i := 396) (by decide +kernel)), .inl rfl⟩ eo_3 en_3 e_oksA (.inr ⟨rfl, rfl, rfl⟩) (by decide +kernel) rfl : e_Sn 68 27 (o_putf (e_f1 3 2) e_okR 30)) t_68_30 (e_cg_putf (e_f1 3 2) e_okR)
noncomputable def n_68_25 : e_Y := u_tab (o_newa 0 (e_I 2147483648) 27)
theorem t_68_25 : e_Sn 68 25 (e_un n_68_25) := u_tabT (s_newI (List.mem_of_getElem? (i := 215) (by decide +kernel)) hq_68 (by decide +kernel) rfl : e_Sn 68 25 (o_newa 0 (e_I 2147483648) 27))
noncomputable def n_68_23 : e_Y := u_push (.inl 2147483708) n_68_25
theorem t_68_23 : e_Sn 68 23 (e_un n_68_23) := u_pushT (s_bipush (n := (60)) hq_68 (by decide +kernel) rfl ⟨by decide +kernel, by decide +kernel⟩ : e_Sn 68 23 (o_push (.inl 2147483708) 25)) t_68_25
noncomputable def n_68_22 : e_Y := u_ld f_okA f_l0 n_68_23
theorem t_68_22 : e_Sn 68 22 (e_un n_68_22) := u_ldAT f_l0_eq (s_aload (i := .aload_n 0) (len := 1) hq_68 (by decide +kernel) rfl (.inr ⟨0, rfl, rfl, rfl⟩) : e_Sn 68 22 (o_load e_okR 0 23)) t_68_23
noncomputable def n_68_19 : e_Y := u_old (o_putf (e_f1 3 1) e_okR 22) n_68_22
theorem t_68_19 : e_Sn 68 19 (e_un n_68_19) := u_oldT (s_putf (ty0 := ey_3) (ok := e_okR) (C := er_3) (T := et_3) (N := 5) (ref := "Plateroomprinter$Figures") (index := 15) (ci := 3) (k := 1) hq_68 ho_68 ⟨rfl, by decide, ei_3, (List.mem_of_getElem? (i := 394) (by decide +kernel)), .inl rfl⟩ eo_3 en_3 e_oksA (.inr ⟨rfl, rfl, rfl⟩) (by decide +kernel) rfl : e_Sn 68 19 (o_putf (e_f1 3 1) e_okR 22)) t_68_22 (e_cg_putf (e_f1 3 1) e_okR)
noncomputable def n_68_17 : e_Y := u_tab (o_newa 0 (e_I 2147483648) 19)
theorem t_68_17 : e_Sn 68 17 (e_un n_68_17) := u_tabT (s_newI (List.mem_of_getElem? (i := 215) (by decide +kernel)) hq_68 (by decide +kernel) rfl : e_Sn 68 17 (o_newa 0 (e_I 2147483648) 19))
noncomputable def n_68_14 : e_Y := u_push (.inl 2147483888) n_68_17
theorem t_68_14 : e_Sn 68 14 (e_un n_68_14) := u_pushT (s_sipush (n := (240)) hq_68 (by decide +kernel) rfl ⟨by decide +kernel, by decide +kernel⟩ : e_Sn 68 14 (o_push (.inl 2147483888) 17)) t_68_17
noncomputable def n_68_13 : e_Y := u_ld f_okA f_l0 n_68_14
theorem t_68_13 : e_Sn 68 13 (e_un n_68_13) := u_ldAT f_l0_eq (s_aload (i := .aload_n 0) (len := 1) hq_68 (by decide +kernel) rfl (.inr ⟨0, rfl, rfl, rfl⟩) : e_Sn 68 13 (o_load e_okR 0 14)) t_68_14
noncomputable def n_68_10 : e_Y := u_old (o_putf (e_f1 3 0) e_okR 13) n_68_13
theorem t_68_10 : e_Sn 68 10 (e_un n_68_10) := u_oldT (s_putf (ty0 := ey_3) (ok := e_okR) (C := er_3) (T := et_3) (N := 5) (ref := "Plateroomprinter$Figures") (index := 9) (ci := 3) (k := 0) hq_68 ho_68 ⟨rfl, by decide, ei_3, (List.mem_of_getElem? (i := 392) (by decide +kernel)), .inl rfl⟩ eo_3 en_3 e_oksA (.inr ⟨rfl, rfl, rfl⟩) (by decide +kernel) rfl : e_Sn 68 10 (o_putf (e_f1 3 0) e_okR 13)) t_68_13 (e_cg_putf (e_f1 3 0) e_okR)
noncomputable def n_68_8 : e_Y := u_tab (o_newa 0 (e_I 2147483648) 10)
theorem t_68_8 : e_Sn 68 8 (e_un n_68_8) := u_tabT (s_newI (List.mem_of_getElem? (i := 215) (by decide +kernel)) hq_68 (by decide +kernel) rfl : e_Sn 68 8 (o_newa 0 (e_I 2147483648) 10))
noncomputable def n_68_5 : e_Y := u_push (.inl 2147485568) n_68_8
theorem t_68_5 : e_Sn 68 5 (e_un n_68_5) := u_pushT (s_sipush (n := (1920)) hq_68 (by decide +kernel) rfl ⟨by decide +kernel, by decide +kernel⟩ : e_Sn 68 5 (o_push (.inl 2147485568) 8)) t_68_8
noncomputable def n_68_4 : e_Y := u_ld f_okA f_l0 n_68_5
theorem t_68_4 : e_Sn 68 4 (e_un n_68_4) := u_ldAT f_l0_eq (s_aload (i := .aload_n 0) (len := 1) hq_68 (by decide +kernel) rfl (.inr ⟨0, rfl, rfl, rfl⟩) : e_Sn 68 4 (o_load e_okR 0 5)) t_68_5
noncomputable def n_68_1 : e_Y := u_tab (o_oinit 4)
theorem t_68_1 : e_Sn 68 1 (e_un n_68_1) := u_tabT (s_oinit (idx := 3) hq_68 ho_68 (List.mem_of_getElem? (i := 391) (by decide +kernel)) (List.mem_of_getElem? (i := 190) (by decide +kernel)) (List.mem_of_getElem? (i := 191) (by decide +kernel)) (by decide +kernel) rfl : e_Sn 68 1 (o_oinit 4))
noncomputable def n_68_0 : e_Y := u_ld f_okA f_l0 n_68_1
theorem t_68_0 : e_Sn 68 0 (e_un n_68_0) := u_ldAT f_l0_eq (s_aload (i := .aload_n 0) (len := 1) hq_68 (by decide +kernel) rfl (.inr ⟨0, rfl, rfl, rfl⟩) : e_Sn 68 0 (o_load e_okR 0 1)) t_68_1
noncomputable def e_tb_68 : e_X := (e_br 19 (e_br 4 (e_lf 0 (e_un n_68_0)) (e_br 10 (e_lf 4 (e_un n_68_4)) (e_lf 10 (e_un n_68_10)))) (e_br 27 (e_lf 19 (e_un n_68_19)) (e_br 35 (e_lf 27 (e_un n_68_27)) (e_lf 35 (e_un n_68_35)))))
theorem e_tk_68 : e_Tb 68 e_tb_68 := (e_brT (e_brT (e_lfT t_68_0) (e_brT (e_lfT t_68_4) (e_lfT t_68_10))) (e_brT (e_lfT t_68_19) (e_brT (e_lfT t_68_27) (e_lfT t_68_35))))
theorem hq_220 : (e_ml[220]?).map (·.2.1) = some prog_37_method_65_code := rfl
theorem ho_220 : (e_ml[220]?).map (·.1.cls) = some "java/lang/Math" := rfl
theorem hr_220 : (e_ml[220]?).map (·.2.2.2) = some (some .int) := rfl
noncomputable def n_220_10 : e_Y := u_retI
theorem t_220_10 : e_Sn 220 10 (e_un n_220_10) := u_retIT (s_iret hq_220 hr_220 (by decide +kernel) : e_Sn 220 10 (o_ret e_okI))
noncomputable def n_220_9 : e_Y := u_ld f_okI f_l1 n_220_10
theorem t_220_9 : e_Sn 220 9 (e_un n_220_9) := u_ldIT f_l1_eq (s_iload (i := .iload_n 1) (len := 1) hq_220 (by decide +kernel) rfl (.inr ⟨1, rfl, rfl, rfl⟩) : e_Sn 220 9 (o_load e_okI 1 10)) t_220_10
noncomputable def n_220_6 : e_Y := n_220_10
theorem t_220_6 : e_Sn 220 6 (e_un n_220_6) := u_gotoT (s_goto (off := (4)) hq_220 (by decide +kernel) rfl : e_Sn 220 6 (o_goto 10)) t_220_10
noncomputable def n_220_5 : e_Y := u_ld f_okI f_l0 n_220_6
theorem t_220_5 : e_Sn 220 5 (e_un n_220_5) := u_ldIT f_l0_eq (s_iload (i := .iload_n 0) (len := 1) hq_220 (by decide +kernel) rfl (.inr ⟨0, rfl, rfl, rfl⟩) : e_Sn 220 5 (o_load e_okI 0 6)) t_220_6
noncomputable def n_220_2 : e_Y := u_jmp y_ge (u_old2 (o_clt 9 5) 9 n_220_9 n_220_5) n_220_9 n_220_5
theorem t_220_2 : e_Sn 220 2 (e_un n_220_2) := u_cltT rfl (s_clt (off := (7)) hq_220 (by decide +kernel) rfl rfl : e_Sn 220 2 (o_clt 9 5)) t_220_9 t_220_5
noncomputable def n_220_1 : e_Y := u_ld f_okI f_l1 n_220_2
theorem t_220_1 : e_Sn 220 1 (e_un n_220_1) := u_ldIT f_l1_eq (s_iload (i := .iload_n 1) (len := 1) hq_220 (by decide +kernel) rfl (.inr ⟨1, rfl, rfl, rfl⟩) : e_Sn 220 1 (o_load e_okI 1 2)) t_220_2
noncomputable def n_220_0 : e_Y := u_ld f_okI f_l0 n_220_1
theorem t_220_0 : e_Sn 220 0 (e_un n_220_0) := u_ldIT f_l0_eq (s_iload (i := .iload_n 0) (len := 1) hq_220 (by decide +kernel) rfl (.inr ⟨0, rfl, rfl, rfl⟩) : e_Sn 220 0 (o_load e_okI 0 1)) t_220_1
noncomputable def e_tb_220 : e_X := (e_lf 0 (e_un n_220_0))
theorem e_tk_220 : e_Tb 220 e_tb_220 := (e_lfT t_220_0)
theorem hq_70 : (e_ml[70]?).map (·.2.1) = some prog_5_method_1_code := rfl
theorem ho_70 : (e_ml[70]?).map (·.1.cls) = some "Plateroomprinter$Items" := rfl
theorem hr_70 : (e_ml[70]?).map (·.2.2.2) = some none := rfl
noncomputable def n_70_48 : e_Y := u_tab (o_retv)
theorem t_70_48 : e_Sn 70 48 (e_un n_70_48) := u_tabT (s_vret hq_70 hr_70 (by decide +kernel) : e_Sn 70 48 (o_retv))
noncomputable def n_70_45 : e_Y := u_old (o_putf (e_f1 4 4) e_okI 48) n_70_48
theorem t_70_45 : e_Sn 70 45 (e_un n_70_45) := u_oldT (s_putf (ty0 := ey_4) (ok := e_okI) (C := er_4) (T := et_4) (N := 5) (ref := "Plateroomprinter$Items") (index := 31) (ci := 4) (k := 4) hq_70 ho_70 ⟨rfl, by decide, ei_4, (List.mem_of_getElem? (i := 235) (by decide +kernel)), .inl rfl⟩ eo_4 en_4 e_oksI (.inl rfl) (by decide +kernel) rfl : e_Sn 70 45 (o_putf (e_f1 4 4) e_okI 48)) t_70_48 (e_cg_putf (e_f1 4 4) e_okI)
noncomputable def n_70_44 : e_Y := u_push (.inl 2147483648) n_70_45
theorem t_70_44 : e_Sn 70 44 (e_un n_70_44) := u_pushT (s_iconst (n := (0)) hq_70 (by decide +kernel) rfl ⟨by decide +kernel, by decide +kernel⟩ : e_Sn 70 44 (o_push (.inl 2147483648) 45)) t_70_45
noncomputable def n_70_43 : e_Y := u_ld f_okA f_l0 n_70_44
theorem t_70_43 : e_Sn 70 43 (e_un n_70_43) := u_ldAT f_l0_eq (s_aload (i := .aload_n 0) (len := 1) hq_70 (by decide +kernel) rfl (.inr ⟨0, rfl, rfl, rfl⟩) : e_Sn 70 43 (o_load e_okR 0 44)) t_70_44
noncomputable def n_70_40 : e_Y := u_old (o_putf (e_f1 4 3) e_okR 43) n_70_43
theorem t_70_40 : e_Sn 70 40 (e_un n_70_40) := u_oldT (s_putf (ty0 := ey_4) (ok := e_okR) (C := er_4) (T := et_4) (N := 5) (ref := "Plateroomprinter$Items") (index := 28) (ci := 4) (k := 3) hq_70 ho_70 ⟨rfl, by decide, ei_4, (List.mem_of_getElem? (i := 234) (by decide +kernel)), .inl rfl⟩ eo_4 en_4 e_oksA (.inr ⟨rfl, rfl, rfl⟩) (by decide +kernel) rfl : e_Sn 70 40 (o_putf (e_f1 4 3) e_okR 43)) t_70_43 (e_cg_putf (e_f1 4 3) e_okR)
noncomputable def n_70_38 : e_Y := u_tab (o_newa 0 (e_I 2147483648) 40)
theorem t_70_38 : e_Sn 70 38 (e_un n_70_38) := u_tabT (s_newI (List.mem_of_getElem? (i := 215) (by decide +kernel)) hq_70 (by decide +kernel) rfl : e_Sn 70 38 (o_newa 0 (e_I 2147483648) 40))
noncomputable def n_70_35 : e_Y := u_getf 4 0 (u_old (o_getf (e_f1 4 0) 38) n_70_38) n_70_38
theorem t_70_35 : e_Sn 70 35 (e_un n_70_35) := u_getfT (s_getf (C := er_4) (T := et_4) (N := 5) (ref := "Plateroomprinter$Items") (index := 15) (ci := 4) (k := 0) hq_70 ho_70 ⟨rfl, by decide, ei_4, (List.mem_of_getElem? (i := 231) (by decide +kernel)), .inl rfl⟩ (by decide +kernel) rfl : e_Sn 70 35 (o_getf (e_f1 4 0) 38)) t_70_38
noncomputable def n_70_34 : e_Y := u_ld f_okA f_l0 n_70_35
theorem t_70_34 : e_Sn 70 34 (e_un n_70_34) := u_ldAT f_l0_eq (s_aload (i := .aload_n 0) (len := 1) hq_70 (by decide +kernel) rfl (.inr ⟨0, rfl, rfl, rfl⟩) : e_Sn 70 34 (o_load e_okR 0 35)) t_70_35
noncomputable def n_70_33 : e_Y := u_ld f_okA f_l0 n_70_34
theorem t_70_33 : e_Sn 70 33 (e_un n_70_33) := u_ldAT f_l0_eq (s_aload (i := .aload_n 0) (len := 1) hq_70 (by decide +kernel) rfl (.inr ⟨0, rfl, rfl, rfl⟩) : e_Sn 70 33 (o_load e_okR 0 34)) t_70_34
noncomputable def n_70_30 : e_Y := u_old (o_putf (e_f1 4 2) e_okR 33) n_70_33
theorem t_70_30 : e_Sn 70 30 (e_un n_70_30) := u_oldT (s_putf (ty0 := ey_4) (ok := e_okR) (C := er_4) (T := et_4) (N := 5) (ref := "Plateroomprinter$Items") (index := 25) (ci := 4) (k := 2) hq_70 ho_70 ⟨rfl, by decide, ei_4, (List.mem_of_getElem? (i := 233) (by decide +kernel)), .inl rfl⟩ eo_4 en_4 e_oksA (.inr ⟨rfl, rfl, rfl⟩) (by decide +kernel) rfl : e_Sn 70 30 (o_putf (e_f1 4 2) e_okR 33)) t_70_33 (e_cg_putf (e_f1 4 2) e_okR)
noncomputable def n_70_28 : e_Y := u_tab (o_newa 0 (e_I 2147483648) 30)
theorem t_70_28 : e_Sn 70 28 (e_un n_70_28) := u_tabT (s_newI (List.mem_of_getElem? (i := 215) (by decide +kernel)) hq_70 (by decide +kernel) rfl : e_Sn 70 28 (o_newa 0 (e_I 2147483648) 30))
noncomputable def n_70_25 : e_Y := u_getf 4 0 (u_old (o_getf (e_f1 4 0) 28) n_70_28) n_70_28
theorem t_70_25 : e_Sn 70 25 (e_un n_70_25) := u_getfT (s_getf (C := er_4) (T := et_4) (N := 5) (ref := "Plateroomprinter$Items") (index := 15) (ci := 4) (k := 0) hq_70 ho_70 ⟨rfl, by decide, ei_4, (List.mem_of_getElem? (i := 231) (by decide +kernel)), .inl rfl⟩ (by decide +kernel) rfl : e_Sn 70 25 (o_getf (e_f1 4 0) 28)) t_70_28
noncomputable def n_70_24 : e_Y := u_ld f_okA f_l0 n_70_25
theorem t_70_24 : e_Sn 70 24 (e_un n_70_24) := u_ldAT f_l0_eq (s_aload (i := .aload_n 0) (len := 1) hq_70 (by decide +kernel) rfl (.inr ⟨0, rfl, rfl, rfl⟩) : e_Sn 70 24 (o_load e_okR 0 25)) t_70_25
noncomputable def n_70_23 : e_Y := u_ld f_okA f_l0 n_70_24
theorem t_70_23 : e_Sn 70 23 (e_un n_70_23) := u_ldAT f_l0_eq (s_aload (i := .aload_n 0) (len := 1) hq_70 (by decide +kernel) rfl (.inr ⟨0, rfl, rfl, rfl⟩) : e_Sn 70 23 (o_load e_okR 0 24)) t_70_24
noncomputable def n_70_20 : e_Y := u_old (o_putf (e_f1 4 1) e_okR 23) n_70_23
theorem t_70_20 : e_Sn 70 20 (e_un n_70_20) := u_oldT (s_putf (ty0 := ey_4) (ok := e_okR) (C := er_4) (T := et_4) (N := 5) (ref := "Plateroomprinter$Items") (index := 21) (ci := 4) (k := 1) hq_70 ho_70 ⟨rfl, by decide, ei_4, (List.mem_of_getElem? (i := 232) (by decide +kernel)), .inl rfl⟩ eo_4 en_4 e_oksA (.inr ⟨rfl, rfl, rfl⟩) (by decide +kernel) rfl : e_Sn 70 20 (o_putf (e_f1 4 1) e_okR 23)) t_70_23 (e_cg_putf (e_f1 4 1) e_okR)
noncomputable def n_70_18 : e_Y := u_tab (o_newa 0 (e_I 2147483648) 20)
theorem t_70_18 : e_Sn 70 18 (e_un n_70_18) := u_tabT (s_newI (List.mem_of_getElem? (i := 215) (by decide +kernel)) hq_70 (by decide +kernel) rfl : e_Sn 70 18 (o_newa 0 (e_I 2147483648) 20))
noncomputable def n_70_15 : e_Y := u_getf 4 0 (u_old (o_getf (e_f1 4 0) 18) n_70_18) n_70_18
theorem t_70_15 : e_Sn 70 15 (e_un n_70_15) := u_getfT (s_getf (C := er_4) (T := et_4) (N := 5) (ref := "Plateroomprinter$Items") (index := 15) (ci := 4) (k := 0) hq_70 ho_70 ⟨rfl, by decide, ei_4, (List.mem_of_getElem? (i := 231) (by decide +kernel)), .inl rfl⟩ (by decide +kernel) rfl : e_Sn 70 15 (o_getf (e_f1 4 0) 18)) t_70_18
noncomputable def n_70_14 : e_Y := u_ld f_okA f_l0 n_70_15
theorem t_70_14 : e_Sn 70 14 (e_un n_70_14) := u_ldAT f_l0_eq (s_aload (i := .aload_n 0) (len := 1) hq_70 (by decide +kernel) rfl (.inr ⟨0, rfl, rfl, rfl⟩) : e_Sn 70 14 (o_load e_okR 0 15)) t_70_15
noncomputable def n_70_13 : e_Y := u_ld f_okA f_l0 n_70_14
theorem t_70_13 : e_Sn 70 13 (e_un n_70_13) := u_ldAT f_l0_eq (s_aload (i := .aload_n 0) (len := 1) hq_70 (by decide +kernel) rfl (.inr ⟨0, rfl, rfl, rfl⟩) : e_Sn 70 13 (o_load e_okR 0 14)) t_70_14
noncomputable def n_70_10 : e_Y := u_old (o_putf (e_f1 4 0) e_okI 13) n_70_13
theorem t_70_10 : e_Sn 70 10 (e_un n_70_10) := u_oldT (s_putf (ty0 := ey_4) (ok := e_okI) (C := er_4) (T := et_4) (N := 5) (ref := "Plateroomprinter$Items") (index := 15) (ci := 4) (k := 0) hq_70 ho_70 ⟨rfl, by decide, ei_4, (List.mem_of_getElem? (i := 231) (by decide +kernel)), .inl rfl⟩ eo_4 en_4 e_oksI (.inr ⟨rfl, rfl, rfl⟩) (by decide +kernel) rfl : e_Sn 70 10 (o_putf (e_f1 4 0) e_okI 13)) t_70_13 (e_cg_putf (e_f1 4 0) e_okI)
noncomputable def n_70_7 : e_Y := u_tab (o_mmax 10)
theorem t_70_7 : e_Sn 70 7 (e_un n_70_7) := u_tabT (s_mmax (index := 9) hq_70 ho_70 (List.mem_of_getElem? (i := 228) (by decide +kernel)) (List.mem_of_getElem? (i := 229) (by decide +kernel)) (List.mem_of_getElem? (i := 142) (by decide +kernel)) (List.mem_of_getElem? (i := 230) (by decide +kernel)) (by decide +kernel) rfl : e_Sn 70 7 (o_mmax 10))
noncomputable def n_70_6 : e_Y := u_ld f_okI f_l1 n_70_7
theorem t_70_6 : e_Sn 70 6 (e_un n_70_6) := u_ldIT f_l1_eq (s_iload (i := .iload_n 1) (len := 1) hq_70 (by decide +kernel) rfl (.inr ⟨1, rfl, rfl, rfl⟩) : e_Sn 70 6 (o_load e_okI 1 7)) t_70_7
noncomputable def n_70_5 : e_Y := u_push (.inl 2147483648) n_70_6
theorem t_70_5 : e_Sn 70 5 (e_un n_70_5) := u_pushT (s_iconst (n := (0)) hq_70 (by decide +kernel) rfl ⟨by decide +kernel, by decide +kernel⟩ : e_Sn 70 5 (o_push (.inl 2147483648) 6)) t_70_6
noncomputable def n_70_4 : e_Y := u_ld f_okA f_l0 n_70_5
theorem t_70_4 : e_Sn 70 4 (e_un n_70_4) := u_ldAT f_l0_eq (s_aload (i := .aload_n 0) (len := 1) hq_70 (by decide +kernel) rfl (.inr ⟨0, rfl, rfl, rfl⟩) : e_Sn 70 4 (o_load e_okR 0 5)) t_70_5
noncomputable def n_70_1 : e_Y := u_tab (o_oinit 4)
theorem t_70_1 : e_Sn 70 1 (e_un n_70_1) := u_tabT (s_oinit (idx := 3) hq_70 ho_70 (List.mem_of_getElem? (i := 227) (by decide +kernel)) (List.mem_of_getElem? (i := 190) (by decide +kernel)) (List.mem_of_getElem? (i := 191) (by decide +kernel)) (by decide +kernel) rfl : e_Sn 70 1 (o_oinit 4))
noncomputable def n_70_0 : e_Y := u_ld f_okA f_l0 n_70_1
theorem t_70_0 : e_Sn 70 0 (e_un n_70_0) := u_ldAT f_l0_eq (s_aload (i := .aload_n 0) (len := 1) hq_70 (by decide +kernel) rfl (.inr ⟨0, rfl, rfl, rfl⟩) : e_Sn 70 0 (o_load e_okR 0 1)) t_70_1
noncomputable def e_tb_70 : e_X := (e_br 20 (e_br 4 (e_lf 0 (e_un n_70_0)) (e_br 10 (e_lf 4 (e_un n_70_4)) (e_lf 10 (e_un n_70_10)))) (e_br 30 (e_lf 20 (e_un n_70_20)) (e_br 40 (e_lf 30 (e_un n_70_30)) (e_lf 40 (e_un n_70_40)))))
theorem e_tk_70 : e_Tb 70 e_tb_70 := (e_brT (e_brT (e_lfT t_70_0) (e_brT (e_lfT t_70_4) (e_lfT t_70_10))) (e_brT (e_lfT t_70_20) (e_brT (e_lfT t_70_30) (e_lfT t_70_40))))
theorem hq_77 : (e_ml[77]?).map (·.2.1) = some prog_6_method_1_code := rfl
theorem ho_77 : (e_ml[77]?).map (·.1.cls) = some "Plateroomprinter$Matrix" := rfl
theorem hr_77 : (e_ml[77]?).map (·.2.2.2) = some none := rfl
noncomputable def n_77_20 : e_Y := u_tab (o_retv)
theorem t_77_20 : e_Sn 77 20 (e_un n_77_20) := u_tabT (s_vret hq_77 hr_77 (by decide +kernel) : e_Sn 77 20 (o_retv))
noncomputable def n_77_17 : e_Y := u_old (o_putf (e_f1 5 1) e_okR 20) n_77_20
theorem t_77_17 : e_Sn 77 17 (e_un n_77_17) := u_oldT (s_putf (ty0 := ey_5) (ok := e_okR) (C := er_5) (T := et_5) (N := 5) (ref := "Plateroomprinter$Matrix") (index := 15) (ci := 5) (k := 1) hq_77 ho_77 ⟨rfl, by decide, ei_5, (List.mem_of_getElem? (i := 263) (by decide +kernel)), .inl rfl⟩ eo_5 en_5 e_oksA (.inr ⟨rfl, rfl, rfl⟩) (by decide +kernel) rfl : e_Sn 77 17 (o_putf (e_f1 5 1) e_okR 20)) t_77_20 (e_cg_putf (e_f1 5 1) e_okR)
noncomputable def n_77_15 : e_Y := u_tab (o_newa 2 (e_L 9223372036854775808) 17)
theorem t_77_15 : e_Sn 77 15 (e_un n_77_15) := u_tabT (s_newJ (List.mem_of_getElem? (i := 279) (by decide +kernel)) hq_77 (by decide +kernel) rfl : e_Sn 77 15 (o_newa 2 (e_L 9223372036854775808) 17))
noncomputable def n_77_13 : e_Y := u_push (.inl 2147483654) n_77_15
theorem t_77_13 : e_Sn 77 13 (e_un n_77_13) := u_pushT (s_bipush (n := (6)) hq_77 (by decide +kernel) rfl ⟨by decide +kernel, by decide +kernel⟩ : e_Sn 77 13 (o_push (.inl 2147483654) 15)) t_77_15
noncomputable def n_77_12 : e_Y := u_ld f_okA f_l0 n_77_13
theorem t_77_12 : e_Sn 77 12 (e_un n_77_12) := u_ldAT f_l0_eq (s_aload (i := .aload_n 0) (len := 1) hq_77 (by decide +kernel) rfl (.inr ⟨0, rfl, rfl, rfl⟩) : e_Sn 77 12 (o_load e_okR 0 13)) t_77_13
noncomputable def n_77_9 : e_Y := u_old (o_putf (e_f1 5 0) e_okR 12) n_77_12
theorem t_77_9 : e_Sn 77 9 (e_un n_77_9) := u_oldT (s_putf (ty0 := ey_5) (ok := e_okR) (C := er_5) (T := et_5) (N := 5) (ref := "Plateroomprinter$Matrix") (index := 9) (ci := 5) (k := 0) hq_77 ho_77 ⟨rfl, by decide, ei_5, (List.mem_of_getElem? (i := 261) (by decide +kernel)), .inl rfl⟩ eo_5 en_5 e_oksA (.inr ⟨rfl, rfl, rfl⟩) (by decide +kernel) rfl : e_Sn 77 9 (o_putf (e_f1 5 0) e_okR 12)) t_77_12 (e_cg_putf (e_f1 5 0) e_okR)
noncomputable def n_77_7 : e_Y := u_tab (o_newa 2 (e_L 9223372036854775808) 9)
theorem t_77_7 : e_Sn 77 7 (e_un n_77_7) := u_tabT (s_newJ (List.mem_of_getElem? (i := 279) (by decide +kernel)) hq_77 (by decide +kernel) rfl : e_Sn 77 7 (o_newa 2 (e_L 9223372036854775808) 9))
noncomputable def n_77_5 : e_Y := u_push (.inl 2147483654) n_77_7
theorem t_77_5 : e_Sn 77 5 (e_un n_77_5) := u_pushT (s_bipush (n := (6)) hq_77 (by decide +kernel) rfl ⟨by decide +kernel, by decide +kernel⟩ : e_Sn 77 5 (o_push (.inl 2147483654) 7)) t_77_7
noncomputable def n_77_4 : e_Y := u_ld f_okA f_l0 n_77_5
theorem t_77_4 : e_Sn 77 4 (e_un n_77_4) := u_ldAT f_l0_eq (s_aload (i := .aload_n 0) (len := 1) hq_77 (by decide +kernel) rfl (.inr ⟨0, rfl, rfl, rfl⟩) : e_Sn 77 4 (o_load e_okR 0 5)) t_77_5
noncomputable def n_77_1 : e_Y := u_tab (o_oinit 4)
theorem t_77_1 : e_Sn 77 1 (e_un n_77_1) := u_tabT (s_oinit (idx := 3) hq_77 ho_77 (List.mem_of_getElem? (i := 260) (by decide +kernel)) (List.mem_of_getElem? (i := 190) (by decide +kernel)) (List.mem_of_getElem? (i := 191) (by decide +kernel)) (by decide +kernel) rfl : e_Sn 77 1 (o_oinit 4))
noncomputable def n_77_0 : e_Y := u_ld f_okA f_l0 n_77_1
theorem t_77_0 : e_Sn 77 0 (e_un n_77_0) := u_ldAT f_l0_eq (s_aload (i := .aload_n 0) (len := 1) hq_77 (by decide +kernel) rfl (.inr ⟨0, rfl, rfl, rfl⟩) : e_Sn 77 0 (o_load e_okR 0 1)) t_77_1
noncomputable def e_tb_77 : e_X := (e_br 9 (e_br 4 (e_lf 0 (e_un n_77_0)) (e_lf 4 (e_un n_77_4))) (e_br 17 (e_lf 9 (e_un n_77_9)) (e_lf 17 (e_un n_77_17))))
theorem e_tk_77 : e_Tb 77 e_tb_77 := (e_brT (e_brT (e_lfT t_77_0) (e_lfT t_77_4)) (e_brT (e_lfT t_77_9) (e_lfT t_77_17)))
theorem hq_96 : (e_ml[96]?).map (·.2.1) = some prog_11_method_1_code := rfl
theorem ho_96 : (e_ml[96]?).map (·.1.cls) = some "Plateroomprinter$State" := rfl
theorem hr_96 : (e_ml[96]?).map (·.2.2.2) = some none := rfl
noncomputable def n_96_41 : e_Y := u_tab (o_retv)
theorem t_96_41 : e_Sn 96 41 (e_un n_96_41) := u_tabT (s_vret hq_96 hr_96 (by decide +kernel) : e_Sn 96 41 (o_retv))
noncomputable def n_96_38 : e_Y := u_old (o_putf (e_f1 10 3) e_okR 41) n_96_41
theorem t_96_38 : e_Sn 96 38 (e_un n_96_38) := u_oldT (s_putf (ty0 := ey_10) (ok := e_okR) (C := er_10) (T := et_10) (N := 11) (ref := "Plateroomprinter$State") (index := 29) (ci := 10) (k := 3) hq_96 ho_96 ⟨rfl, by decide, ei_10, (List.mem_of_getElem? (i := 325) (by decide +kernel)), .inl rfl⟩ eo_10 en_10 e_oksA (.inr ⟨rfl, rfl, rfl⟩) (by decide +kernel) rfl : e_Sn 96 38 (o_putf (e_f1 10 3) e_okR 41)) t_96_41 (e_cg_putf (e_f1 10 3) e_okR)
noncomputable def n_96_36 : e_Y := u_tab (o_newa 0 (e_I 2147483648) 38)
theorem t_96_36 : e_Sn 96 36 (e_un n_96_36) := u_tabT (s_newI (List.mem_of_getElem? (i := 215) (by decide +kernel)) hq_96 (by decide +kernel) rfl : e_Sn 96 36 (o_newa 0 (e_I 2147483648) 38))
noncomputable def n_96_35 : e_Y := u_push (.inl 2147483652) n_96_36
theorem t_96_35 : e_Sn 96 35 (e_un n_96_35) := u_pushT (s_iconst (n := (4)) hq_96 (by decide +kernel) rfl ⟨by decide +kernel, by decide +kernel⟩ : e_Sn 96 35 (o_push (.inl 2147483652) 36)) t_96_36
noncomputable def n_96_34 : e_Y := u_ld f_okA f_l0 n_96_35
theorem t_96_34 : e_Sn 96 34 (e_un n_96_34) := u_ldAT f_l0_eq (s_aload (i := .aload_n 0) (len := 1) hq_96 (by decide +kernel) rfl (.inr ⟨0, rfl, rfl, rfl⟩) : e_Sn 96 34 (o_load e_okR 0 35)) t_96_35
noncomputable def n_96_31 : e_Y := u_old (o_putf (e_f1 10 2) e_okR 34) n_96_34
theorem t_96_31 : e_Sn 96 31 (e_un n_96_31) := u_oldT (s_putf (ty0 := ey_10) (ok := e_okR) (C := er_10) (T := et_10) (N := 11) (ref := "Plateroomprinter$State") (index := 25) (ci := 10) (k := 2) hq_96 ho_96 ⟨rfl, by decide, ei_10, (List.mem_of_getElem? (i := 322) (by decide +kernel)), .inl rfl⟩ eo_10 en_10 e_oksA (.inr ⟨rfl, rfl, rfl⟩) (by decide +kernel) rfl : e_Sn 96 31 (o_putf (e_f1 10 2) e_okR 34)) t_96_34 (e_cg_putf (e_f1 10 2) e_okR)
noncomputable def n_96_29 : e_Y := u_tab (o_newa 0 (e_I 2147483648) 31)
theorem t_96_29 : e_Sn 96 29 (e_un n_96_29) := u_tabT (s_newI (List.mem_of_getElem? (i := 215) (by decide +kernel)) hq_96 (by decide +kernel) rfl : e_Sn 96 29 (o_newa 0 (e_I 2147483648) 31))
noncomputable def n_96_27 : e_Y := u_push (.inl 2147483680) n_96_29
theorem t_96_27 : e_Sn 96 27 (e_un n_96_27) := u_pushT (s_bipush (n := (32)) hq_96 (by decide +kernel) rfl ⟨by decide +kernel, by decide +kernel⟩ : e_Sn 96 27 (o_push (.inl 2147483680) 29)) t_96_29
noncomputable def n_96_26 : e_Y := u_ld f_okA f_l0 n_96_27
theorem t_96_26 : e_Sn 96 26 (e_un n_96_26) := u_ldAT f_l0_eq (s_aload (i := .aload_n 0) (len := 1) hq_96 (by decide +kernel) rfl (.inr ⟨0, rfl, rfl, rfl⟩) : e_Sn 96 26 (o_load e_okR 0 27)) t_96_27
noncomputable def n_96_23 : e_Y := u_old (o_putf (e_f1 10 1) e_okR 26) n_96_26
theorem t_96_23 : e_Sn 96 23 (e_un n_96_23) := u_oldT (s_putf (ty0 := ey_10) (ok := e_okR) (C := er_10) (T := et_10) (N := 11) (ref := "Plateroomprinter$State") (index := 21) (ci := 10) (k := 1) hq_96 ho_96 ⟨rfl, by decide, ei_10, (List.mem_of_getElem? (i := 319) (by decide +kernel)), .inl rfl⟩ eo_10 en_10 e_oksR (.inr ⟨rfl, rfl, rfl⟩) (by decide +kernel) rfl : e_Sn 96 23 (o_putf (e_f1 10 1) e_okR 26)) t_96_26 (e_cg_putf (e_f1 10 1) e_okR)
noncomputable def n_96_20 : e_Y := u_tab (o_callI 82 1 1 23)
theorem t_96_20 : e_Sn 96 20 (e_un n_96_20) := u_tabT (s_callIN (host := "Plateroomprinter") (index := 20) hq_96 ho_96 hy_82 hp_82 hc_82 hi_82 hd_82 (List.mem_of_getElem? (i := 282) (by decide +kernel)) rfl rfl hs_82 (by decide +kernel) rfl : e_Sn 96 20 (o_callI 82 1 1 23))
noncomputable def n_96_19 : e_Y := u_old (o_dup 20) n_96_20
theorem t_96_19 : e_Sn 96 19 (e_un n_96_19) := u_oldT (s_dup hq_96 (by decide +kernel) rfl : e_Sn 96 19 (o_dup 20)) t_96_20 e_cg_dup
noncomputable def n_96_16 : e_Y := u_tab (o_new 7 6 ef_7 19)
theorem t_96_16 : e_Sn 96 16 (e_un n_96_16) := u_tabT (s_new (index := 18) (ci := 7) (N := 6) (C := er_7) (T := et_7) (ty0 := ey_7) (fv := eg_7) hq_96 ho_96 rfl ei_7 eo_7 (List.mem_of_getElem? (i := 280) (by decide +kernel)) (List.mem_of_getElem? (i := 281) (by decide +kernel)) (List.mem_of_getElem? (i := 145) (by decide +kernel)) eh_7 rfl (e_newrel ek_7) (by decide +kernel) rfl : e_Sn 96 16 (o_new 7 6 ef_7 19))
noncomputable def n_96_15 : e_Y := u_ld f_okA f_l0 n_96_16
theorem t_96_15 : e_Sn 96 15 (e_un n_96_15) := u_ldAT f_l0_eq (s_aload (i := .aload_n 0) (len := 1) hq_96 (by decide +kernel) rfl (.inr ⟨0, rfl, rfl, rfl⟩) : e_Sn 96 15 (o_load e_okR 0 16)) t_96_16
noncomputable def n_96_12 : e_Y := u_old (o_putf (e_f1 10 0) e_okR 15) n_96_15
theorem t_96_12 : e_Sn 96 12 (e_un n_96_12) := u_oldT (s_putf (ty0 := ey_10) (ok := e_okR) (C := er_10) (T := et_10) (N := 11) (ref := "Plateroomprinter$State") (index := 12) (ci := 10) (k := 0) hq_96 ho_96 ⟨rfl, by decide, ei_10, (List.mem_of_getElem? (i := 316) (by decide +kernel)), .inl rfl⟩ eo_10 en_10 e_oksR (.inr ⟨rfl, rfl, rfl⟩) (by decide +kernel) rfl : e_Sn 96 12 (o_putf (e_f1 10 0) e_okR 15)) t_96_15 (e_cg_putf (e_f1 10 0) e_okR)
noncomputable def n_96_9 : e_Y := u_tab (o_callI 77 1 1 12)
theorem t_96_9 : e_Sn 96 9 (e_un n_96_9) := u_tabT (s_callIN (host := "Plateroomprinter") (index := 11) hq_96 ho_96 hy_77 hp_77 hc_77 hi_77 hd_77 (List.mem_of_getElem? (i := 257) (by decide +kernel)) rfl rfl hs_77 (by decide +kernel) rfl : e_Sn 96 9 (o_callI 77 1 1 12))
noncomputable def n_96_8 : e_Y := u_old (o_dup 9) n_96_9
theorem t_96_8 : e_Sn 96 8 (e_un n_96_8) := u_oldT (s_dup hq_96 (by decide +kernel) rfl : e_Sn 96 8 (o_dup 9)) t_96_9 e_cg_dup
noncomputable def n_96_5 : e_Y := u_tab (o_new 5 5 ef_5 8)
theorem t_96_5 : e_Sn 96 5 (e_un n_96_5) := u_tabT (s_new (index := 9) (ci := 5) (N := 5) (C := er_5) (T := et_5) (ty0 := ey_5) (fv := eg_5) hq_96 ho_96 rfl ei_5 eo_5 (List.mem_of_getElem? (i := 255) (by decide +kernel)) (List.mem_of_getElem? (i := 256) (by decide +kernel)) (List.mem_of_getElem? (i := 144) (by decide +kernel)) eh_5 rfl (e_newrel ek_5) (by decide +kernel) rfl : e_Sn 96 5 (o_new 5 5 ef_5 8))
noncomputable def n_96_4 : e_Y := u_ld f_okA f_l0 n_96_5
theorem t_96_4 : e_Sn 96 4 (e_un n_96_4) := u_ldAT f_l0_eq (s_aload (i := .aload_n 0) (len := 1) hq_96 (by decide +kernel) rfl (.inr ⟨0, rfl, rfl, rfl⟩) : e_Sn 96 4 (o_load e_okR 0 5)) t_96_5
noncomputable def n_96_1 : e_Y := u_tab (o_oinit 4)
theorem t_96_1 : e_Sn 96 1 (e_un n_96_1) := u_tabT (s_oinit (idx := 3) hq_96 ho_96 (List.mem_of_getElem? (i := 254) (by decide +kernel)) (List.mem_of_getElem? (i := 190) (by decide +kernel)) (List.mem_of_getElem? (i := 191) (by decide +kernel)) (by decide +kernel) rfl : e_Sn 96 1 (o_oinit 4))
noncomputable def n_96_0 : e_Y := u_ld f_okA f_l0 n_96_1
theorem t_96_0 : e_Sn 96 0 (e_un n_96_0) := u_ldAT f_l0_eq (s_aload (i := .aload_n 0) (len := 1) hq_96 (by decide +kernel) rfl (.inr ⟨0, rfl, rfl, rfl⟩) : e_Sn 96 0 (o_load e_okR 0 1)) t_96_1
noncomputable def e_tb_96 : e_X := (e_br 19 (e_br 8 (e_br 4 (e_lf 0 (e_un n_96_0)) (e_lf 4 (e_un n_96_4))) (e_br 12 (e_lf 8 (e_un n_96_8)) (e_lf 12 (e_un n_96_12)))) (e_br 31 (e_br 23 (e_lf 19 (e_un n_96_19)) (e_lf 23 (e_un n_96_23))) (e_br 38 (e_lf 31 (e_un n_96_31)) (e_lf 38 (e_un n_96_38)))))
theorem e_tk_96 : e_Tb 96 e_tb_96 := (e_brT (e_brT (e_brT (e_lfT t_96_0) (e_lfT t_96_4)) (e_brT (e_lfT t_96_8) (e_lfT t_96_12))) (e_brT (e_brT (e_lfT t_96_19) (e_lfT t_96_23)) (e_brT (e_lfT t_96_31) (e_lfT t_96_38))))
theorem hq_76 : (e_ml[76]?).map (·.2.1) = some prog_5_method_4_code := rfl
theorem ho_76 : (e_ml[76]?).map (·.1.cls) = some "Plateroomprinter$Items" := rfl
theorem hr_76 : (e_ml[76]?).map (·.2.2.2) = some none := rfl
noncomputable def n_76_34 : e_Y := u_tab (o_retv)
theorem t_76_34 : e_Sn 76 34 (e_un n_76_34) := u_tabT (s_vret hq_76 hr_76 (by decide +kernel) : e_Sn 76 34 (o_retv))
noncomputable def n_76_33 : e_Y := u_old (o_ast 0 e_okI 34) n_76_34
theorem t_76_33 : e_Sn 76 33 (e_un n_76_33) := u_oldT (s_iast hq_76 (by decide +kernel) rfl : e_Sn 76 33 (o_ast 0 e_okI 34)) t_76_34 (e_cg_ast 0 e_okI)
noncomputable def n_76_31 : e_Y := u_ld f_okI f_l4 n_76_33
theorem t_76_31 : e_Sn 76 31 (e_un n_76_31) := u_ldIT f_l4_eq (s_iload (i := .iload 4) (len := 2) hq_76 (by decide +kernel) rfl (.inl ⟨rfl, rfl⟩) : e_Sn 76 31 (o_load e_okI 4 33)) t_76_33
noncomputable def n_76_30 : e_Y := u_ld f_okI f_l1 n_76_31
theorem t_76_30 : e_Sn 76 30 (e_un n_76_30) := u_ldIT f_l1_eq (s_iload (i := .iload_n 1) (len := 1) hq_76 (by decide +kernel) rfl (.inr ⟨1, rfl, rfl, rfl⟩) : e_Sn 76 30 (o_load e_okI 1 31)) t_76_31
noncomputable def n_76_27 : e_Y := u_getf 4 3 (u_old (o_getf (e_f1 4 3) 30) n_76_30) n_76_30
theorem t_76_27 : e_Sn 76 27 (e_un n_76_27) := u_getfT (s_getf (C := er_4) (T := et_4) (N := 5) (ref := "Plateroomprinter$Items") (index := 28) (ci := 4) (k := 3) hq_76 ho_76 ⟨rfl, by decide, ei_4, (List.mem_of_getElem? (i := 234) (by decide +kernel)), .inl rfl⟩ (by decide +kernel) rfl : e_Sn 76 27 (o_getf (e_f1 4 3) 30)) t_76_30
noncomputable def n_76_26 : e_Y := u_ld f_okA f_l0 n_76_27
theorem t_76_26 : e_Sn 76 26 (e_un n_76_26) := u_ldAT f_l0_eq (s_aload (i := .aload_n 0) (len := 1) hq_76 (by decide +kernel) rfl (.inr ⟨0, rfl, rfl, rfl⟩) : e_Sn 76 26 (o_load e_okR 0 27)) t_76_27
noncomputable def n_76_25 : e_Y := u_old (o_ast 0 e_okI 26) n_76_26
theorem t_76_25 : e_Sn 76 25 (e_un n_76_25) := u_oldT (s_iast hq_76 (by decide +kernel) rfl : e_Sn 76 25 (o_ast 0 e_okI 26)) t_76_26 (e_cg_ast 0 e_okI)
noncomputable def n_76_24 : e_Y := u_ld f_okI f_l3 n_76_25
theorem t_76_24 : e_Sn 76 24 (e_un n_76_24) := u_ldIT f_l3_eq (s_iload (i := .iload_n 3) (len := 1) hq_76 (by decide +kernel) rfl (.inr ⟨3, rfl, rfl, rfl⟩) : e_Sn 76 24 (o_load e_okI 3 25)) t_76_25
noncomputable def n_76_23 : e_Y := u_ld f_okI f_l1 n_76_24
theorem t_76_23 : e_Sn 76 23 (e_un n_76_23) := u_ldIT f_l1_eq (s_iload (i := .iload_n 1) (len := 1) hq_76 (by decide +kernel) rfl (.inr ⟨1, rfl, rfl, rfl⟩) : e_Sn 76 23 (o_load e_okI 1 24)) t_76_24
noncomputable def n_76_20 : e_Y := u_getf 4 2 (u_old (o_getf (e_f1 4 2) 23) n_76_23) n_76_23
theorem t_76_20 : e_Sn 76 20 (e_un n_76_20) := u_getfT (s_getf (C := er_4) (T := et_4) (N := 5) (ref := "Plateroomprinter$Items") (index := 25) (ci := 4) (k := 2) hq_76 ho_76 ⟨rfl, by decide, ei_4, (List.mem_of_getElem? (i := 233) (by decide +kernel)), .inl rfl⟩ (by decide +kernel) rfl : e_Sn 76 20 (o_getf (e_f1 4 2) 23)) t_76_23
noncomputable def n_76_19 : e_Y := u_ld f_okA f_l0 n_76_20
theorem t_76_19 : e_Sn 76 19 (e_un n_76_19) := u_ldAT f_l0_eq (s_aload (i := .aload_n 0) (len := 1) hq_76 (by decide +kernel) rfl (.inr ⟨0, rfl, rfl, rfl⟩) : e_Sn 76 19 (o_load e_okR 0 20)) t_76_20
noncomputable def n_76_18 : e_Y := u_old (o_ast 0 e_okI 19) n_76_19
theorem t_76_18 : e_Sn 76 18 (e_un n_76_18) := u_oldT (s_iast hq_76 (by decide +kernel) rfl : e_Sn 76 18 (o_ast 0 e_okI 19)) t_76_19 (e_cg_ast 0 e_okI)
noncomputable def n_76_17 : e_Y := u_ld f_okI f_l2 n_76_18
theorem t_76_17 : e_Sn 76 17 (e_un n_76_17) := u_ldIT f_l2_eq (s_iload (i := .iload_n 2) (len := 1) hq_76 (by decide +kernel) rfl (.inr ⟨2, rfl, rfl, rfl⟩) : e_Sn 76 17 (o_load e_okI 2 18)) t_76_18
noncomputable def n_76_16 : e_Y := u_ld f_okI f_l1 n_76_17
theorem t_76_16 : e_Sn 76 16 (e_un n_76_16) := u_ldIT f_l1_eq (s_iload (i := .iload_n 1) (len := 1) hq_76 (by decide +kernel) rfl (.inr ⟨1, rfl, rfl, rfl⟩) : e_Sn 76 16 (o_load e_okI 1 17)) t_76_17
noncomputable def n_76_13 : e_Y := u_getf 4 1 (u_old (o_getf (e_f1 4 1) 16) n_76_16) n_76_16
theorem t_76_13 : e_Sn 76 13 (e_un n_76_13) := u_getfT (s_getf (C := er_4) (T := et_4) (N := 5) (ref := "Plateroomprinter$Items") (index := 21) (ci := 4) (k := 1) hq_76 ho_76 ⟨rfl, by decide, ei_4, (List.mem_of_getElem? (i := 232) (by decide +kernel)), .inl rfl⟩ (by decide +kernel) rfl : e_Sn 76 13 (o_getf (e_f1 4 1) 16)) t_76_16
noncomputable def n_76_12 : e_Y := u_ld f_okA f_l0 n_76_13
theorem t_76_12 : e_Sn 76 12 (e_un n_76_12) := u_ldAT f_l0_eq (s_aload (i := .aload_n 0) (len := 1) hq_76 (by decide +kernel) rfl (.inr ⟨0, rfl, rfl, rfl⟩) : e_Sn 76 12 (o_load e_okR 0 13)) t_76_13
noncomputable def n_76_9 : e_Y := u_jmp y_ge (u_old2 (o_clt 12 34) 12 n_76_12 n_76_34) n_76_12 n_76_34
theorem t_76_9 : e_Sn 76 9 (e_un n_76_9) := u_cltT rfl (s_cge (off := (25)) hq_76 (by decide +kernel) rfl rfl : e_Sn 76 9 (o_clt 12 34)) t_76_12 t_76_34
noncomputable def n_76_6 : e_Y := u_getf 4 0 (u_old (o_getf (e_f1 4 0) 9) n_76_9) n_76_9
theorem t_76_6 : e_Sn 76 6 (e_un n_76_6) := u_getfT (s_getf (C := er_4) (T := et_4) (N := 5) (ref := "Plateroomprinter$Items") (index := 15) (ci := 4) (k := 0) hq_76 ho_76 ⟨rfl, by decide, ei_4, (List.mem_of_getElem? (i := 231) (by decide +kernel)), .inl rfl⟩ (by decide +kernel) rfl : e_Sn 76 6 (o_getf (e_f1 4 0) 9)) t_76_9
noncomputable def n_76_5 : e_Y := u_ld f_okA f_l0 n_76_6
theorem t_76_5 : e_Sn 76 5 (e_un n_76_5) := u_ldAT f_l0_eq (s_aload (i := .aload_n 0) (len := 1) hq_76 (by decide +kernel) rfl (.inr ⟨0, rfl, rfl, rfl⟩) : e_Sn 76 5 (o_load e_okR 0 6)) t_76_6
noncomputable def n_76_4 : e_Y := u_ld f_okI f_l1 n_76_5
theorem t_76_4 : e_Sn 76 4 (e_un n_76_4) := u_ldIT f_l1_eq (s_iload (i := .iload_n 1) (len := 1) hq_76 (by decide +kernel) rfl (.inr ⟨1, rfl, rfl, rfl⟩) : e_Sn 76 4 (o_load e_okI 1 5)) t_76_5
noncomputable def n_76_1 : e_Y := u_if y_ge0 (u_old2 (o_iflt 34 4) 34 n_76_34 n_76_4) n_76_34 n_76_4
theorem t_76_1 : e_Sn 76 1 (e_un n_76_1) := u_ifltT rfl (s_iflt (off := (33)) hq_76 (by decide +kernel) rfl rfl : e_Sn 76 1 (o_iflt 34 4)) t_76_34 t_76_4
noncomputable def n_76_0 : e_Y := u_ld f_okI f_l1 n_76_1
theorem t_76_0 : e_Sn 76 0 (e_un n_76_0) := u_ldIT f_l1_eq (s_iload (i := .iload_n 1) (len := 1) hq_76 (by decide +kernel) rfl (.inr ⟨1, rfl, rfl, rfl⟩) : e_Sn 76 0 (o_load e_okI 1 1)) t_76_1
noncomputable def e_tb_76 : e_X := (e_lf 0 (e_un n_76_0))
theorem e_tk_76 : e_Tb 76 e_tb_76 := (e_lfT t_76_0)
theorem hq_221 : (e_ml[221]?).map (·.2.1) = some prog_37_method_69_code := rfl
theorem ho_221 : (e_ml[221]?).map (·.1.cls) = some "java/lang/Math" := rfl
theorem hr_221 : (e_ml[221]?).map (·.2.2.2) = some (some .int) := rfl
noncomputable def n_221_10 : e_Y := u_retI
theorem t_221_10 : e_Sn 221 10 (e_un n_221_10) := u_retIT (s_iret hq_221 hr_221 (by decide +kernel) : e_Sn 221 10 (o_ret e_okI))
noncomputable def n_221_6 : e_Y := n_221_10
theorem t_221_6 : e_Sn 221 6 (e_un n_221_6) := u_gotoT (s_goto (off := (4)) hq_221 (by decide +kernel) rfl : e_Sn 221 6 (o_goto 10)) t_221_10
noncomputable def n_221_5 : e_Y := u_ld f_okI f_l0 n_221_6
theorem t_221_5 : e_Sn 221 5 (e_un n_221_5) := u_ldIT f_l0_eq (s_iload (i := .iload_n 0) (len := 1) hq_221 (by decide +kernel) rfl (.inr ⟨0, rfl, rfl, rfl⟩) : e_Sn 221 5 (o_load e_okI 0 6)) t_221_6
noncomputable def n_221_2 : e_Y := u_jmp y_le (u_old2 (o_cgt 9 5) 9 (u_at 9) n_221_5) (u_at 9) n_221_5
theorem t_221_2 : e_Sn 221 2 (e_un n_221_2) := u_cgtT rfl (s_cgt (off := (7)) hq_221 (by decide +kernel) rfl rfl : e_Sn 221 2 (o_cgt 9 5)) u_atT t_221_5
noncomputable def n_221_1 : e_Y := u_ld f_okI f_l1 n_221_2
theorem t_221_1 : e_Sn 221 1 (e_un n_221_1) := u_ldIT f_l1_eq (s_iload (i := .iload_n 1) (len := 1) hq_221 (by decide +kernel) rfl (.inr ⟨1, rfl, rfl, rfl⟩) : e_Sn 221 1 (o_load e_okI 1 2)) t_221_2
noncomputable def n_221_0 : e_Y := u_ld f_okI f_l0 n_221_1
theorem t_221_0 : e_Sn 221 0 (e_un n_221_0) := u_ldIT f_l0_eq (s_iload (i := .iload_n 0) (len := 1) hq_221 (by decide +kernel) rfl (.inr ⟨0, rfl, rfl, rfl⟩) : e_Sn 221 0 (o_load e_okI 0 1)) t_221_1
noncomputable def e_tb_221 : e_X := (e_lf 0 (e_un n_221_0))
theorem e_tk_221 : e_Tb 221 e_tb_221 := (e_lfT t_221_0)
theorem hq_71 : (e_ml[71]?).map (·.2.1) = some prog_5_method_2_code := rfl
theorem ho_71 : (e_ml[71]?).map (·.1.cls) = some "Plateroomprinter$Items" := rfl
theorem hr_71 : (e_ml[71]?).map (·.2.2.2) = some none := rfl
noncomputable def n_71_40 : e_Y := u_tab (o_retv)
theorem t_71_40 : e_Sn 71 40 (e_un n_71_40) := u_tabT (s_vret hq_71 hr_71 (by decide +kernel) : e_Sn 71 40 (o_retv))
noncomputable def n_71_37 : e_Y := (u_at 18)
theorem t_71_37 : e_Sn 71 37 (e_un n_71_37) := u_gotoT (s_goto (off := (-19)) hq_71 (by decide +kernel) rfl : e_Sn 71 37 (o_goto 18)) u_atT
noncomputable def n_71_34 : e_Y := u_inc f_l2 f_s2 1 n_71_37
theorem t_71_34 : e_Sn 71 34 (e_un n_71_34) := u_incT f_l2_eq (fun _ _ _ => f_s2_eq) (s_iinc (zz := (1)) hq_71 (by decide +kernel) rfl (by decide +kernel) ⟨by decide, by decide⟩ : e_Sn 71 34 (o_iinc 2 1 37)) t_71_37
noncomputable def n_71_31 : e_Y := u_callV 4 76 5 24 5 n_76_0 n_71_34
theorem t_71_31 : e_Sn 71 31 (e_un n_71_31) := u_callVT rfl (s_callV (ci := 4) (C := er_4) (T := et_4) (N := 5) (index := 37) hq_71 ho_71 hy_76 hp_76 hc_76 hi_76 hd_76 (List.mem_of_getElem? (i := 427) (by decide +kernel)) hs_76 (List.mem_of_getElem? (i := 429) (by decide +kernel)) rfl (by decide +kernel) rfl : e_Sn 71 31 (o_callV (e_s1 4 76 5) 5 34)) t_76_0 t_71_34
noncomputable def n_71_30 : e_Y := u_push (.inl 2147483648) n_71_31
theorem t_71_30 : e_Sn 71 30 (e_un n_71_30) := u_pushT (s_iconst (n := (0)) hq_71 (by decide +kernel) rfl ⟨by decide +kernel, by decide +kernel⟩ : e_Sn 71 30 (o_push (.inl 2147483648) 31)) t_71_31
noncomputable def n_71_29 : e_Y := u_push (.inl 2147483648) n_71_30
theorem t_71_29 : e_Sn 71 29 (e_un n_71_29) := u_pushT (s_iconst (n := (0)) hq_71 (by decide +kernel) rfl ⟨by decide +kernel, by decide +kernel⟩ : e_Sn 71 29 (o_push (.inl 2147483648) 30)) t_71_30
noncomputable def n_71_28 : e_Y := u_push (.inl 2147483647) n_71_29
theorem t_71_28 : e_Sn 71 28 (e_un n_71_28) := u_pushT (s_iconst (n := (-1)) hq_71 (by decide +kernel) rfl ⟨by decide +kernel, by decide +kernel⟩ : e_Sn 71 28 (o_push (.inl 2147483647) 29)) t_71_29
noncomputable def n_71_27 : e_Y := u_ld f_okI f_l2 n_71_28
theorem t_71_27 : e_Sn 71 27 (e_un n_71_27) := u_ldIT f_l2_eq (s_iload (i := .iload_n 2) (len := 1) hq_71 (by decide +kernel) rfl (.inr ⟨2, rfl, rfl, rfl⟩) : e_Sn 71 27 (o_load e_okI 2 28)) t_71_28
noncomputable def n_71_26 : e_Y := u_ld f_okA f_l0 n_71_27
theorem t_71_26 : e_Sn 71 26 (e_un n_71_26) := u_ldAT f_l0_eq (s_aload (i := .aload_n 0) (len := 1) hq_71 (by decide +kernel) rfl (.inr ⟨0, rfl, rfl, rfl⟩) : e_Sn 71 26 (o_load e_okR 0 27)) t_71_27
noncomputable def n_71_23 : e_Y := u_jmp y_ge (u_old2 (o_clt 26 40) 26 n_71_26 n_71_40) n_71_26 n_71_40
theorem t_71_23 : e_Sn 71 23 (e_un n_71_23) := u_cltT rfl (s_cge (off := (17)) hq_71 (by decide +kernel) rfl rfl : e_Sn 71 23 (o_clt 26 40)) t_71_26 t_71_40
noncomputable def n_71_20 : e_Y := u_getf 4 0 (u_old (o_getf (e_f1 4 0) 23) n_71_23) n_71_23
theorem t_71_20 : e_Sn 71 20 (e_un n_71_20) := u_getfT (s_getf (C := er_4) (T := et_4) (N := 5) (ref := "Plateroomprinter$Items") (index := 15) (ci := 4) (k := 0) hq_71 ho_71 ⟨rfl, by decide, ei_4, (List.mem_of_getElem? (i := 231) (by decide +kernel)), .inl rfl⟩ (by decide +kernel) rfl : e_Sn 71 20 (o_getf (e_f1 4 0) 23)) t_71_23
noncomputable def n_71_19 : e_Y := u_ld f_okA f_l0 n_71_20
theorem t_71_19 : e_Sn 71 19 (e_un n_71_19) := u_ldAT f_l0_eq (s_aload (i := .aload_n 0) (len := 1) hq_71 (by decide +kernel) rfl (.inr ⟨0, rfl, rfl, rfl⟩) : e_Sn 71 19 (o_load e_okR 0 20)) t_71_20
noncomputable def n_71_18 : e_Y := u_ld f_okI f_l2 n_71_19
theorem t_71_18 : e_Sn 71 18 (e_un n_71_18) := u_ldIT f_l2_eq (s_iload (i := .iload_n 2) (len := 1) hq_71 (by decide +kernel) rfl (.inr ⟨2, rfl, rfl, rfl⟩) : e_Sn 71 18 (o_load e_okI 2 19)) t_71_19
noncomputable def n_71_17 : e_Y := u_st f_okI f_s2 n_71_18
theorem t_71_17 : e_Sn 71 17 (e_un n_71_17) := u_stIT (fun _ _ _ => f_s2_eq) (s_istore (i := .istore_n 2) (len := 1) hq_71 (by decide +kernel) rfl (.inr ⟨2, rfl, rfl, rfl⟩) : e_Sn 71 17 (o_store e_okI 2 18)) t_71_18
noncomputable def n_71_16 : e_Y := u_push (.inl 2147483648) n_71_17
theorem t_71_16 : e_Sn 71 16 (e_un n_71_16) := u_pushT (s_iconst (n := (0)) hq_71 (by decide +kernel) rfl ⟨by decide +kernel, by decide +kernel⟩ : e_Sn 71 16 (o_push (.inl 2147483648) 17)) t_71_17
noncomputable def n_71_13 : e_Y := u_old (o_putf (e_f1 4 4) e_okI 16) n_71_16
theorem t_71_13 : e_Sn 71 13 (e_un n_71_13) := u_oldT (s_putf (ty0 := ey_4) (ok := e_okI) (C := er_4) (T := et_4) (N := 5) (ref := "Plateroomprinter$Items") (index := 31) (ci := 4) (k := 4) hq_71 ho_71 ⟨rfl, by decide, ei_4, (List.mem_of_getElem? (i := 235) (by decide +kernel)), .inl rfl⟩ eo_4 en_4 e_oksI (.inl rfl) (by decide +kernel) rfl : e_Sn 71 13 (o_putf (e_f1 4 4) e_okI 16)) t_71_16 (e_cg_putf (e_f1 4 4) e_okI)
noncomputable def n_71_10 : e_Y := u_tab (o_mmax 13)
theorem t_71_10 : e_Sn 71 10 (e_un n_71_10) := u_tabT (s_mmax (index := 9) hq_71 ho_71 (List.mem_of_getElem? (i := 228) (by decide +kernel)) (List.mem_of_getElem? (i := 229) (by decide +kernel)) (List.mem_of_getElem? (i := 142) (by decide +kernel)) (List.mem_of_getElem? (i := 230) (by decide +kernel)) (by decide +kernel) rfl : e_Sn 71 10 (o_mmax 13))
noncomputable def n_71_7 : e_Y := u_tab (o_mmin 10)
theorem t_71_7 : e_Sn 71 7 (e_un n_71_7) := u_tabT (s_mmin (index := 34) hq_71 ho_71 (List.mem_of_getElem? (i := 424) (by decide +kernel)) (List.mem_of_getElem? (i := 425) (by decide +kernel)) (List.mem_of_getElem? (i := 142) (by decide +kernel)) (List.mem_of_getElem? (i := 426) (by decide +kernel)) (by decide +kernel) rfl : e_Sn 71 7 (o_mmin 10))
noncomputable def n_71_4 : e_Y := u_getf 4 0 (u_old (o_getf (e_f1 4 0) 7) n_71_7) n_71_7
theorem t_71_4 : e_Sn 71 4 (e_un n_71_4) := u_getfT (s_getf (C := er_4) (T := et_4) (N := 5) (ref := "Plateroomprinter$Items") (index := 15) (ci := 4) (k := 0) hq_71 ho_71 ⟨rfl, by decide, ei_4, (List.mem_of_getElem? (i := 231) (by decide +kernel)), .inl rfl⟩ (by decide +kernel) rfl : e_Sn 71 4 (o_getf (e_f1 4 0) 7)) t_71_7
noncomputable def n_71_3 : e_Y := u_ld f_okA f_l0 n_71_4
theorem t_71_3 : e_Sn 71 3 (e_un n_71_3) := u_ldAT f_l0_eq (s_aload (i := .aload_n 0) (len := 1) hq_71 (by decide +kernel) rfl (.inr ⟨0, rfl, rfl, rfl⟩) : e_Sn 71 3 (o_load e_okR 0 4)) t_71_4
noncomputable def n_71_2 : e_Y := u_ld f_okI f_l1 n_71_3
theorem t_71_2 : e_Sn 71 2 (e_un n_71_2) := u_ldIT f_l1_eq (s_iload (i := .iload_n 1) (len := 1) hq_71 (by decide +kernel) rfl (.inr ⟨1, rfl, rfl, rfl⟩) : e_Sn 71 2 (o_load e_okI 1 3)) t_71_3
noncomputable def n_71_1 : e_Y := u_push (.inl 2147483648) n_71_2
theorem t_71_1 : e_Sn 71 1 (e_un n_71_1) := u_pushT (s_iconst (n := (0)) hq_71 (by decide +kernel) rfl ⟨by decide +kernel, by decide +kernel⟩ : e_Sn 71 1 (o_push (.inl 2147483648) 2)) t_71_2
noncomputable def n_71_0 : e_Y := u_ld f_okA f_l0 n_71_1
theorem t_71_0 : e_Sn 71 0 (e_un n_71_0) := u_ldAT f_l0_eq (s_aload (i := .aload_n 0) (len := 1) hq_71 (by decide +kernel) rfl (.inr ⟨0, rfl, rfl, rfl⟩) : e_Sn 71 0 (o_load e_okR 0 1)) t_71_1
noncomputable def e_tb_71 : e_X := (e_br 13 (e_br 10 (e_lf 0 (e_un n_71_0)) (e_lf 10 (e_un n_71_10))) (e_br 18 (e_lf 13 (e_un n_71_13)) (e_lf 18 (e_un n_71_18))))
theorem e_tk_71 : e_Tb 71 e_tb_71 := (e_brT (e_brT (e_lfT t_71_0) (e_lfT t_71_10)) (e_brT (e_lfT t_71_13) (e_lfT t_71_18)))
theorem hq_83 : (e_ml[83]?).map (·.2.1) = some prog_8_method_2_code := rfl
theorem ho_83 : (e_ml[83]?).map (·.1.cls) = some "Plateroomprinter$Path" := rfl
theorem hr_83 : (e_ml[83]?).map (·.2.2.2) = some none := rfl
noncomputable def n_83_10 : e_Y := u_tab (o_retv)
theorem t_83_10 : e_Sn 83 10 (e_un n_83_10) := u_tabT (s_vret hq_83 hr_83 (by decide +kernel) : e_Sn 83 10 (o_retv))
noncomputable def n_83_7 : e_Y := u_old (o_putf (e_f1 7 5) e_okI 10) n_83_10
theorem t_83_7 : e_Sn 83 7 (e_un n_83_7) := u_oldT (s_putf (ty0 := ey_7) (ok := e_okI) (C := er_7) (T := et_7) (N := 6) (ref := "Plateroomprinter$Path") (index := 28) (ci := 7) (k := 5) hq_83 ho_83 ⟨rfl, by decide, ei_7, (List.mem_of_getElem? (i := 299) (by decide +kernel)), .inl rfl⟩ eo_7 en_7 e_oksI (.inl rfl) (by decide +kernel) rfl : e_Sn 83 7 (o_putf (e_f1 7 5) e_okI 10)) t_83_10 (e_cg_putf (e_f1 7 5) e_okI)
noncomputable def n_83_6 : e_Y := u_push (.inl 2147483648) n_83_7
theorem t_83_6 : e_Sn 83 6 (e_un n_83_6) := u_pushT (s_iconst (n := (0)) hq_83 (by decide +kernel) rfl ⟨by decide +kernel, by decide +kernel⟩ : e_Sn 83 6 (o_push (.inl 2147483648) 7)) t_83_7
noncomputable def n_83_5 : e_Y := u_ld f_okA f_l0 n_83_6
theorem t_83_5 : e_Sn 83 5 (e_un n_83_5) := u_ldAT f_l0_eq (s_aload (i := .aload_n 0) (len := 1) hq_83 (by decide +kernel) rfl (.inr ⟨0, rfl, rfl, rfl⟩) : e_Sn 83 5 (o_load e_okR 0 6)) t_83_6
noncomputable def n_83_2 : e_Y := u_old (o_putf (e_f1 7 4) e_okI 5) n_83_5
theorem t_83_2 : e_Sn 83 2 (e_un n_83_2) := u_oldT (s_putf (ty0 := ey_7) (ok := e_okI) (C := er_7) (T := et_7) (N := 6) (ref := "Plateroomprinter$Path") (index := 24) (ci := 7) (k := 4) hq_83 ho_83 ⟨rfl, by decide, ei_7, (List.mem_of_getElem? (i := 294) (by decide +kernel)), .inl rfl⟩ eo_7 en_7 e_oksI (.inl rfl) (by decide +kernel) rfl : e_Sn 83 2 (o_putf (e_f1 7 4) e_okI 5)) t_83_5 (e_cg_putf (e_f1 7 4) e_okI)
noncomputable def n_83_1 : e_Y := u_push (.inl 2147483648) n_83_2
theorem t_83_1 : e_Sn 83 1 (e_un n_83_1) := u_pushT (s_iconst (n := (0)) hq_83 (by decide +kernel) rfl ⟨by decide +kernel, by decide +kernel⟩ : e_Sn 83 1 (o_push (.inl 2147483648) 2)) t_83_2
noncomputable def n_83_0 : e_Y := u_ld f_okA f_l0 n_83_1
theorem t_83_0 : e_Sn 83 0 (e_un n_83_0) := u_ldAT f_l0_eq (s_aload (i := .aload_n 0) (len := 1) hq_83 (by decide +kernel) rfl (.inr ⟨0, rfl, rfl, rfl⟩) : e_Sn 83 0 (o_load e_okR 0 1)) t_83_1
noncomputable def e_tb_83 : e_X := (e_lf 0 (e_un n_83_0))
theorem e_tk_83 : e_Tb 83 e_tb_83 := (e_lfT t_83_0)
theorem hq_4 : (e_ml[4]?).map (·.2.1) = some prog_1_method_35_code := rfl
theorem ho_4 : (e_ml[4]?).map (·.1.cls) = some "Plateroomprinter" := rfl
theorem hr_4 : (e_ml[4]?).map (·.2.2.2) = some none := rfl
noncomputable def n_4_18 : e_Y := u_tab (o_retv)
theorem t_4_18 : e_Sn 4 18 (e_un n_4_18) := u_tabT (s_vret hq_4 hr_4 (by decide +kernel) : e_Sn 4 18 (o_retv))
noncomputable def n_4_15 : e_Y := (u_at 2)
theorem t_4_15 : e_Sn 4 15 (e_un n_4_15) := u_gotoT (s_goto (off := (-13)) hq_4 (by decide +kernel) rfl : e_Sn 4 15 (o_goto 2)) u_atT
noncomputable def n_4_12 : e_Y := u_inc f_l1 f_s1 1 n_4_15
theorem t_4_12 : e_Sn 4 12 (e_un n_4_12) := u_incT f_l1_eq (fun _ _ _ => f_s1_eq) (s_iinc (zz := (1)) hq_4 (by decide +kernel) rfl (by decide +kernel) ⟨by decide, by decide⟩ : e_Sn 4 12 (o_iinc 1 1 15)) t_4_15
noncomputable def n_4_11 : e_Y := u_old (o_ast 0 e_okI 12) n_4_12
theorem t_4_11 : e_Sn 4 11 (e_un n_4_11) := u_oldT (s_iast hq_4 (by decide +kernel) rfl : e_Sn 4 11 (o_ast 0 e_okI 12)) t_4_12 (e_cg_ast 0 e_okI)
noncomputable def n_4_10 : e_Y := u_push (.inl 2147483648) n_4_11
theorem t_4_10 : e_Sn 4 10 (e_un n_4_10) := u_pushT (s_iconst (n := (0)) hq_4 (by decide +kernel) rfl ⟨by decide +kernel, by decide +kernel⟩ : e_Sn 4 10 (o_push (.inl 2147483648) 11)) t_4_11
noncomputable def n_4_9 : e_Y := u_ld f_okI f_l1 n_4_10
theorem t_4_9 : e_Sn 4 9 (e_un n_4_9) := u_ldIT f_l1_eq (s_iload (i := .iload_n 1) (len := 1) hq_4 (by decide +kernel) rfl (.inr ⟨1, rfl, rfl, rfl⟩) : e_Sn 4 9 (o_load e_okI 1 10)) t_4_10
noncomputable def n_4_8 : e_Y := u_ld f_okA f_l0 n_4_9
theorem t_4_8 : e_Sn 4 8 (e_un n_4_8) := u_ldAT f_l0_eq (s_aload (i := .aload_n 0) (len := 1) hq_4 (by decide +kernel) rfl (.inr ⟨0, rfl, rfl, rfl⟩) : e_Sn 4 8 (o_load e_okR 0 9)) t_4_9
noncomputable def n_4_5 : e_Y := u_jmp y_ge (u_old2 (o_clt 8 18) 8 n_4_8 n_4_18) n_4_8 n_4_18
theorem t_4_5 : e_Sn 4 5 (e_un n_4_5) := u_cltT rfl (s_cge (off := (13)) hq_4 (by decide +kernel) rfl rfl : e_Sn 4 5 (o_clt 8 18)) t_4_8 t_4_18
noncomputable def n_4_4 : e_Y := u_old (o_alen e_fcs 5) n_4_5
theorem t_4_4 : e_Sn 4 4 (e_un n_4_4) := u_oldT (s_alen hq_4 (by decide +kernel) rfl : e_Sn 4 4 (o_alen e_fcs 5)) t_4_5 (e_cg_alen e_fcs)
noncomputable def n_4_3 : e_Y := u_ld f_okA f_l0 n_4_4
theorem t_4_3 : e_Sn 4 3 (e_un n_4_3) := u_ldAT f_l0_eq (s_aload (i := .aload_n 0) (len := 1) hq_4 (by decide +kernel) rfl (.inr ⟨0, rfl, rfl, rfl⟩) : e_Sn 4 3 (o_load e_okR 0 4)) t_4_4
noncomputable def n_4_2 : e_Y := u_ld f_okI f_l1 n_4_3
theorem t_4_2 : e_Sn 4 2 (e_un n_4_2) := u_ldIT f_l1_eq (s_iload (i := .iload_n 1) (len := 1) hq_4 (by decide +kernel) rfl (.inr ⟨1, rfl, rfl, rfl⟩) : e_Sn 4 2 (o_load e_okI 1 3)) t_4_3
noncomputable def n_4_1 : e_Y := u_st f_okI f_s1 n_4_2
theorem t_4_1 : e_Sn 4 1 (e_un n_4_1) := u_stIT (fun _ _ _ => f_s1_eq) (s_istore (i := .istore_n 1) (len := 1) hq_4 (by decide +kernel) rfl (.inr ⟨1, rfl, rfl, rfl⟩) : e_Sn 4 1 (o_store e_okI 1 2)) t_4_2
noncomputable def n_4_0 : e_Y := u_push (.inl 2147483648) n_4_1
theorem t_4_0 : e_Sn 4 0 (e_un n_4_0) := u_pushT (s_iconst (n := (0)) hq_4 (by decide +kernel) rfl ⟨by decide +kernel, by decide +kernel⟩ : e_Sn 4 0 (o_push (.inl 2147483648) 1)) t_4_1
noncomputable def e_tb_4 : e_X := (e_br 2 (e_lf 0 (e_un n_4_0)) (e_lf 2 (e_un n_4_2)))
theorem e_tk_4 : e_Tb 4 e_tb_4 := (e_brT (e_lfT t_4_0) (e_lfT t_4_2))
theorem hq_92 : (e_ml[92]?).map (·.2.1) = some prog_10_method_2_code := rfl
theorem ho_92 : (e_ml[92]?).map (·.1.cls) = some "Plateroomprinter$Sheet" := rfl
theorem hr_92 : (e_ml[92]?).map (·.2.2.2) = some none := rfl
noncomputable def n_92_7 : e_Y := u_tab (o_retv)
theorem t_92_7 : e_Sn 92 7 (e_un n_92_7) := u_tabT (s_vret hq_92 hr_92 (by decide +kernel) : e_Sn 92 7 (o_retv))
noncomputable def n_92_4 : e_Y := u_callS 4 2 21 1 n_4_0 n_92_7
theorem t_92_4 : e_Sn 92 4 (e_un n_92_4) := u_callST rfl (s_callSN (host := "Plateroomprinter") (index := 15) hq_92 ho_92 hy_4 hp_4 hc_4 hi_4 hd_4 (List.mem_of_getElem? (i := 456) (by decide +kernel)) hs_4 (by decide +kernel) rfl : e_Sn 92 4 (o_callS 4 2 1 7)) t_4_0 t_92_7
noncomputable def n_92_1 : e_Y := u_getf 9 0 (u_old (o_getf (e_f1 9 0) 4) n_92_4) n_92_4
theorem t_92_1 : e_Sn 92 1 (e_un n_92_1) := u_getfT (s_getf (C := er_9) (T := et_9) (N := 1) (ref := "Plateroomprinter$Sheet") (index := 9) (ci := 9) (k := 0) hq_92 ho_92 ⟨rfl, by decide, ei_9, (List.mem_of_getElem? (i := 381) (by decide +kernel)), .inl rfl⟩ (by decide +kernel) rfl : e_Sn 92 1 (o_getf (e_f1 9 0) 4)) t_92_4
noncomputable def n_92_0 : e_Y := u_ld f_okA f_l0 n_92_1
theorem t_92_0 : e_Sn 92 0 (e_un n_92_0) := u_ldAT f_l0_eq (s_aload (i := .aload_n 0) (len := 1) hq_92 (by decide +kernel) rfl (.inr ⟨0, rfl, rfl, rfl⟩) : e_Sn 92 0 (o_load e_okR 0 1)) t_92_1
noncomputable def e_tb_92 : e_X := (e_lf 0 (e_un n_92_0))
theorem e_tk_92 : e_Tb 92 e_tb_92 := (e_lfT t_92_0)
theorem hq_78 : (e_ml[78]?).map (·.2.1) = some prog_6_method_2_code := rfl
theorem ho_78 : (e_ml[78]?).map (·.1.cls) = some "Plateroomprinter$Matrix" := rfl
theorem hr_78 : (e_ml[78]?).map (·.2.2.2) = some none := rfl
noncomputable def n_78_41 : e_Y := u_tab (o_retv)
theorem t_78_41 : e_Sn 78 41 (e_un n_78_41) := u_tabT (s_vret hq_78 hr_78 (by decide +kernel) : e_Sn 78 41 (o_retv))
noncomputable def n_78_38 : e_Y := (u_at 2)
theorem t_78_38 : e_Sn 78 38 (e_un n_78_38) := u_gotoT (s_goto (off := (-36)) hq_78 (by decide +kernel) rfl : e_Sn 78 38 (o_goto 2)) u_atT
noncomputable def n_78_35 : e_Y := u_inc f_l1 f_s1 1 n_78_38
theorem t_78_35 : e_Sn 78 35 (e_un n_78_35) := u_incT f_l1_eq (fun _ _ _ => f_s1_eq) (s_iinc (zz := (1)) hq_78 (by decide +kernel) rfl (by decide +kernel) ⟨by decide, by decide⟩ : e_Sn 78 35 (o_iinc 1 1 38)) t_78_38
noncomputable def n_78_34 : e_Y := u_old (o_ast 2 e_okL 35) n_78_35
theorem t_78_34 : e_Sn 78 34 (e_un n_78_34) := u_oldT (s_last hq_78 (by decide +kernel) rfl : e_Sn 78 34 (o_ast 2 e_okL 35)) t_78_35 (e_cg_ast 2 e_okL)
noncomputable def n_78_33 : e_Y := u_push (e_L 9223372036854775809) n_78_34
theorem t_78_33 : e_Sn 78 33 (e_un n_78_33) := u_pushT (s_lconst (n := 1) hq_78 (by decide +kernel) rfl ⟨by decide +kernel, by decide +kernel⟩ : e_Sn 78 33 (o_push (e_L 9223372036854775809) 34)) t_78_34
noncomputable def n_78_32 : e_Y := u_ld f_okI f_l1 n_78_33
theorem t_78_32 : e_Sn 78 32 (e_un n_78_32) := u_ldIT f_l1_eq (s_iload (i := .iload_n 1) (len := 1) hq_78 (by decide +kernel) rfl (.inr ⟨1, rfl, rfl, rfl⟩) : e_Sn 78 32 (o_load e_okI 1 33)) t_78_33
noncomputable def n_78_29 : e_Y := u_getf 5 1 (u_old (o_getf (e_f1 5 1) 32) n_78_32) n_78_32
theorem t_78_29 : e_Sn 78 29 (e_un n_78_29) := u_getfT (s_getf (C := er_5) (T := et_5) (N := 5) (ref := "Plateroomprinter$Matrix") (index := 15) (ci := 5) (k := 1) hq_78 ho_78 ⟨rfl, by decide, ei_5, (List.mem_of_getElem? (i := 263) (by decide +kernel)), .inl rfl⟩ (by decide +kernel) rfl : e_Sn 78 29 (o_getf (e_f1 5 1) 32)) t_78_32
noncomputable def n_78_28 : e_Y := u_ld f_okA f_l0 n_78_29
theorem t_78_28 : e_Sn 78 28 (e_un n_78_28) := u_ldAT f_l0_eq (s_aload (i := .aload_n 0) (len := 1) hq_78 (by decide +kernel) rfl (.inr ⟨0, rfl, rfl, rfl⟩) : e_Sn 78 28 (o_load e_okR 0 29)) t_78_29
noncomputable def n_78_27 : e_Y := u_old (o_ast 2 e_okL 28) n_78_28
theorem t_78_27 : e_Sn 78 27 (e_un n_78_27) := u_oldT (s_last hq_78 (by decide +kernel) rfl : e_Sn 78 27 (o_ast 2 e_okL 28)) t_78_28 (e_cg_ast 2 e_okL)
noncomputable def n_78_26 : e_Y := u_push (e_L 9223372036854775808) n_78_27
theorem t_78_26 : e_Sn 78 26 (e_un n_78_26) := u_pushT (s_lconst (n := 0) hq_78 (by decide +kernel) rfl ⟨by decide +kernel, by decide +kernel⟩ : e_Sn 78 26 (o_push (e_L 9223372036854775808) 27)) t_78_27
noncomputable def n_78_23 : e_Y := n_78_27
theorem t_78_23 : e_Sn 78 23 (e_un n_78_23) := u_gotoT (s_goto (off := (4)) hq_78 (by decide +kernel) rfl : e_Sn 78 23 (o_goto 27)) t_78_27
noncomputable def n_78_22 : e_Y := u_push (e_L 9223372036854775809) n_78_23
theorem t_78_22 : e_Sn 78 22 (e_un n_78_22) := u_pushT (s_lconst (n := 1) hq_78 (by decide +kernel) rfl ⟨by decide +kernel, by decide +kernel⟩ : e_Sn 78 22 (o_push (e_L 9223372036854775809) 23)) t_78_23
noncomputable def n_78_19 : e_Y := u_jmp y_ne (u_old2 (o_ceq 22 26) 22 n_78_22 n_78_26) n_78_22 n_78_26
theorem t_78_19 : e_Sn 78 19 (e_un n_78_19) := u_ceqT rfl (s_cne (off := (7)) hq_78 (by decide +kernel) rfl rfl : e_Sn 78 19 (o_ceq 22 26)) t_78_22 t_78_26
noncomputable def n_78_18 : e_Y := u_push (.inl 2147483651) n_78_19
theorem t_78_18 : e_Sn 78 18 (e_un n_78_18) := u_pushT (s_iconst (n := (3)) hq_78 (by decide +kernel) rfl ⟨by decide +kernel, by decide +kernel⟩ : e_Sn 78 18 (o_push (.inl 2147483651) 19)) t_78_19
noncomputable def n_78_17 : e_Y := u_ld f_okI f_l1 n_78_18
theorem t_78_17 : e_Sn 78 17 (e_un n_78_17) := u_ldIT f_l1_eq (s_iload (i := .iload_n 1) (len := 1) hq_78 (by decide +kernel) rfl (.inr ⟨1, rfl, rfl, rfl⟩) : e_Sn 78 17 (o_load e_okI 1 18)) t_78_18
noncomputable def n_78_14 : e_Y := u_if y_ne0 (u_old2 (o_ifeq 22 17) 22 n_78_22 n_78_17) n_78_22 n_78_17
theorem t_78_14 : e_Sn 78 14 (e_un n_78_14) := u_ifeqT rfl (s_ifeq (off := (8)) hq_78 (by decide +kernel) rfl rfl : e_Sn 78 14 (o_ifeq 22 17)) t_78_22 t_78_17
noncomputable def n_78_13 : e_Y := u_ld f_okI f_l1 n_78_14
theorem t_78_13 : e_Sn 78 13 (e_un n_78_13) := u_ldIT f_l1_eq (s_iload (i := .iload_n 1) (len := 1) hq_78 (by decide +kernel) rfl (.inr ⟨1, rfl, rfl, rfl⟩) : e_Sn 78 13 (o_load e_okI 1 14)) t_78_14
noncomputable def n_78_12 : e_Y := u_ld f_okI f_l1 n_78_13
theorem t_78_12 : e_Sn 78 12 (e_un n_78_12) := u_ldIT f_l1_eq (s_iload (i := .iload_n 1) (len := 1) hq_78 (by decide +kernel) rfl (.inr ⟨1, rfl, rfl, rfl⟩) : e_Sn 78 12 (o_load e_okI 1 13)) t_78_13
noncomputable def n_78_9 : e_Y := u_getf 5 0 (u_old (o_getf (e_f1 5 0) 12) n_78_12) n_78_12
theorem t_78_9 : e_Sn 78 9 (e_un n_78_9) := u_getfT (s_getf (C := er_5) (T := et_5) (N := 5) (ref := "Plateroomprinter$Matrix") (index := 9) (ci := 5) (k := 0) hq_78 ho_78 ⟨rfl, by decide, ei_5, (List.mem_of_getElem? (i := 261) (by decide +kernel)), .inl rfl⟩ (by decide +kernel) rfl : e_Sn 78 9 (o_getf (e_f1 5 0) 12)) t_78_12
noncomputable def n_78_8 : e_Y := u_ld f_okA f_l0 n_78_9
theorem t_78_8 : e_Sn 78 8 (e_un n_78_8) := u_ldAT f_l0_eq (s_aload (i := .aload_n 0) (len := 1) hq_78 (by decide +kernel) rfl (.inr ⟨0, rfl, rfl, rfl⟩) : e_Sn 78 8 (o_load e_okR 0 9)) t_78_9
noncomputable def n_78_5 : e_Y := u_jmp y_ge (u_old2 (o_clt 8 41) 8 n_78_8 n_78_41) n_78_8 n_78_41
theorem t_78_5 : e_Sn 78 5 (e_un n_78_5) := u_cltT rfl (s_cge (off := (36)) hq_78 (by decide +kernel) rfl rfl : e_Sn 78 5 (o_clt 8 41)) t_78_8 t_78_41
noncomputable def n_78_3 : e_Y := u_push (.inl 2147483654) n_78_5
theorem t_78_3 : e_Sn 78 3 (e_un n_78_3) := u_pushT (s_bipush (n := (6)) hq_78 (by decide +kernel) rfl ⟨by decide +kernel, by decide +kernel⟩ : e_Sn 78 3 (o_push (.inl 2147483654) 5)) t_78_5
noncomputable def n_78_2 : e_Y := u_ld f_okI f_l1 n_78_3
theorem t_78_2 : e_Sn 78 2 (e_un n_78_2) := u_ldIT f_l1_eq (s_iload (i := .iload_n 1) (len := 1) hq_78 (by decide +kernel) rfl (.inr ⟨1, rfl, rfl, rfl⟩) : e_Sn 78 2 (o_load e_okI 1 3)) t_78_3
noncomputable def n_78_1 : e_Y := u_st f_okI f_s1 n_78_2
theorem t_78_1 : e_Sn 78 1 (e_un n_78_1) := u_stIT (fun _ _ _ => f_s1_eq) (s_istore (i := .istore_n 1) (len := 1) hq_78 (by decide +kernel) rfl (.inr ⟨1, rfl, rfl, rfl⟩) : e_Sn 78 1 (o_store e_okI 1 2)) t_78_2
noncomputable def n_78_0 : e_Y := u_push (.inl 2147483648) n_78_1
theorem t_78_0 : e_Sn 78 0 (e_un n_78_0) := u_pushT (s_iconst (n := (0)) hq_78 (by decide +kernel) rfl ⟨by decide +kernel, by decide +kernel⟩ : e_Sn 78 0 (o_push (.inl 2147483648) 1)) t_78_1
noncomputable def e_tb_78 : e_X := (e_br 2 (e_lf 0 (e_un n_78_0)) (e_lf 2 (e_un n_78_2)))
theorem e_tk_78 : e_Tb 78 e_tb_78 := (e_brT (e_lfT t_78_0) (e_lfT t_78_2))
theorem hq_99 : (e_ml[99]?).map (·.2.1) = some prog_11_method_5_code := rfl
theorem ho_99 : (e_ml[99]?).map (·.1.cls) = some "Plateroomprinter$State" := rfl
theorem hr_99 : (e_ml[99]?).map (·.2.2.2) = some none := rfl
noncomputable def n_99_22 : e_Y := u_tab (o_retv)
theorem t_99_22 : e_Sn 99 22 (e_un n_99_22) := u_tabT (s_vret hq_99 hr_99 (by decide +kernel) : e_Sn 99 22 (o_retv))
noncomputable def n_99_19 : e_Y := u_old (o_putf (e_f1 10 6) e_okI 22) n_99_22
theorem t_99_19 : e_Sn 99 19 (e_un n_99_19) := u_oldT (s_putf (ty0 := ey_10) (ok := e_okI) (C := er_10) (T := et_10) (N := 11) (ref := "Plateroomprinter$State") (index := 68) (ci := 10) (k := 6) hq_99 ho_99 ⟨rfl, by decide, ei_10, (List.mem_of_getElem? (i := 334) (by decide +kernel)), .inl rfl⟩ eo_10 en_10 e_oksI (.inl rfl) (by decide +kernel) rfl : e_Sn 99 19 (o_putf (e_f1 10 6) e_okI 22)) t_99_22 (e_cg_putf (e_f1 10 6) e_okI)
noncomputable def n_99_18 : e_Y := u_push (.inl 2147483648) n_99_19
theorem t_99_18 : e_Sn 99 18 (e_un n_99_18) := u_pushT (s_iconst (n := (0)) hq_99 (by decide +kernel) rfl ⟨by decide +kernel, by decide +kernel⟩ : e_Sn 99 18 (o_push (.inl 2147483648) 19)) t_99_19
noncomputable def n_99_17 : e_Y := u_ld f_okA f_l0 n_99_18
theorem t_99_17 : e_Sn 99 17 (e_un n_99_17) := u_ldAT f_l0_eq (s_aload (i := .aload_n 0) (len := 1) hq_99 (by decide +kernel) rfl (.inr ⟨0, rfl, rfl, rfl⟩) : e_Sn 99 17 (o_load e_okR 0 18)) t_99_18
noncomputable def n_99_14 : e_Y := u_old (o_putf (e_f1 10 5) e_okI 17) n_99_17
theorem t_99_14 : e_Sn 99 14 (e_un n_99_14) := u_oldT (s_putf (ty0 := ey_10) (ok := e_okI) (C := er_10) (T := et_10) (N := 11) (ref := "Plateroomprinter$State") (index := 65) (ci := 10) (k := 5) hq_99 ho_99 ⟨rfl, by decide, ei_10, (List.mem_of_getElem? (i := 331) (by decide +kernel)), .inl rfl⟩ eo_10 en_10 e_oksI (.inl rfl) (by decide +kernel) rfl : e_Sn 99 14 (o_putf (e_f1 10 5) e_okI 17)) t_99_17 (e_cg_putf (e_f1 10 5) e_okI)
noncomputable def n_99_13 : e_Y := u_push (.inl 2147483648) n_99_14
theorem t_99_13 : e_Sn 99 13 (e_un n_99_13) := u_pushT (s_iconst (n := (0)) hq_99 (by decide +kernel) rfl ⟨by decide +kernel, by decide +kernel⟩ : e_Sn 99 13 (o_push (.inl 2147483648) 14)) t_99_14
noncomputable def n_99_12 : e_Y := u_ld f_okA f_l0 n_99_13
theorem t_99_12 : e_Sn 99 12 (e_un n_99_12) := u_ldAT f_l0_eq (s_aload (i := .aload_n 0) (len := 1) hq_99 (by decide +kernel) rfl (.inr ⟨0, rfl, rfl, rfl⟩) : e_Sn 99 12 (o_load e_okR 0 13)) t_99_13
noncomputable def n_99_9 : e_Y := u_old (o_putf (e_f1 10 4) e_okZ 12) n_99_12
theorem t_99_9 : e_Sn 99 9 (e_un n_99_9) := u_oldT (s_putf (ty0 := ey_10) (ok := e_okZ) (C := er_10) (T := et_10) (N := 11) (ref := "Plateroomprinter$State") (index := 61) (ci := 10) (k := 4) hq_99 ho_99 ⟨rfl, by decide, ei_10, (List.mem_of_getElem? (i := 328) (by decide +kernel)), .inl rfl⟩ eo_10 en_10 e_oksZ (.inl rfl) (by decide +kernel) rfl : e_Sn 99 9 (o_putf (e_f1 10 4) e_okZ 12)) t_99_12 (e_cg_putf (e_f1 10 4) e_okZ)
noncomputable def n_99_8 : e_Y := u_push (.inl 2147483648) n_99_9
theorem t_99_8 : e_Sn 99 8 (e_un n_99_8) := u_pushT (s_iconst (n := (0)) hq_99 (by decide +kernel) rfl ⟨by decide +kernel, by decide +kernel⟩ : e_Sn 99 8 (o_push (.inl 2147483648) 9)) t_99_9
noncomputable def n_99_7 : e_Y := u_ld f_okA f_l0 n_99_8
theorem t_99_7 : e_Sn 99 7 (e_un n_99_7) := u_ldAT f_l0_eq (s_aload (i := .aload_n 0) (len := 1) hq_99 (by decide +kernel) rfl (.inr ⟨0, rfl, rfl, rfl⟩) : e_Sn 99 7 (o_load e_okR 0 8)) t_99_8
noncomputable def n_99_4 : e_Y := u_callV 7 83 1 20 1 n_83_0 n_99_7
theorem t_99_4 : e_Sn 99 4 (e_un n_99_4) := u_callVT rfl (s_callV (ci := 7) (C := er_7) (T := et_7) (N := 6) (index := 71) hq_99 ho_99 hy_83 hp_83 hc_83 hi_83 hd_83 (List.mem_of_getElem? (i := 443) (by decide +kernel)) hs_83 (List.mem_of_getElem? (i := 445) (by decide +kernel)) rfl (by decide +kernel) rfl : e_Sn 99 4 (o_callV (e_s1 7 83 1) 1 7)) t_83_0 t_99_7
noncomputable def n_99_1 : e_Y := u_getf 10 1 (u_old (o_getf (e_f1 10 1) 4) n_99_4) n_99_4
theorem t_99_1 : e_Sn 99 1 (e_un n_99_1) := u_getfT (s_getf (C := er_10) (T := et_10) (N := 11) (ref := "Plateroomprinter$State") (index := 21) (ci := 10) (k := 1) hq_99 ho_99 ⟨rfl, by decide, ei_10, (List.mem_of_getElem? (i := 319) (by decide +kernel)), .inl rfl⟩ (by decide +kernel) rfl : e_Sn 99 1 (o_getf (e_f1 10 1) 4)) t_99_4
noncomputable def n_99_0 : e_Y := u_ld f_okA f_l0 n_99_1
theorem t_99_0 : e_Sn 99 0 (e_un n_99_0) := u_ldAT f_l0_eq (s_aload (i := .aload_n 0) (len := 1) hq_99 (by decide +kernel) rfl (.inr ⟨0, rfl, rfl, rfl⟩) : e_Sn 99 0 (o_load e_okR 0 1)) t_99_1
noncomputable def e_tb_99 : e_X := (e_lf 0 (e_un n_99_0))
theorem e_tk_99 : e_Tb 99 e_tb_99 := (e_lfT t_99_0)
theorem hq_100 : (e_ml[100]?).map (·.2.1) = some prog_11_method_4_code := rfl
theorem ho_100 : (e_ml[100]?).map (·.1.cls) = some "Plateroomprinter$State" := rfl
theorem hr_100 : (e_ml[100]?).map (·.2.2.2) = some none := rfl
noncomputable def n_100_21 : e_Y := u_tab (o_retv)
theorem t_100_21 : e_Sn 100 21 (e_un n_100_21) := u_tabT (s_vret hq_100 hr_100 (by decide +kernel) : e_Sn 100 21 (o_retv))
noncomputable def n_100_18 : e_Y := (u_at 2)
theorem t_100_18 : e_Sn 100 18 (e_un n_100_18) := u_gotoT (s_goto (off := (-16)) hq_100 (by decide +kernel) rfl : e_Sn 100 18 (o_goto 2)) u_atT
noncomputable def n_100_15 : e_Y := u_inc f_l1 f_s1 1 n_100_18
theorem t_100_15 : e_Sn 100 15 (e_un n_100_15) := u_incT f_l1_eq (fun _ _ _ => f_s1_eq) (s_iinc (zz := (1)) hq_100 (by decide +kernel) rfl (by decide +kernel) ⟨by decide, by decide⟩ : e_Sn 100 15 (o_iinc 1 1 18)) t_100_18
noncomputable def n_100_14 : e_Y := u_old (o_ast 0 e_okI 15) n_100_15
theorem t_100_14 : e_Sn 100 14 (e_un n_100_14) := u_oldT (s_iast hq_100 (by decide +kernel) rfl : e_Sn 100 14 (o_ast 0 e_okI 15)) t_100_15 (e_cg_ast 0 e_okI)
noncomputable def n_100_13 : e_Y := u_push (.inl 2147483647) n_100_14
theorem t_100_13 : e_Sn 100 13 (e_un n_100_13) := u_pushT (s_iconst (n := (-1)) hq_100 (by decide +kernel) rfl ⟨by decide +kernel, by decide +kernel⟩ : e_Sn 100 13 (o_push (.inl 2147483647) 14)) t_100_14
noncomputable def n_100_12 : e_Y := u_ld f_okI f_l1 n_100_13
theorem t_100_12 : e_Sn 100 12 (e_un n_100_12) := u_ldIT f_l1_eq (s_iload (i := .iload_n 1) (len := 1) hq_100 (by decide +kernel) rfl (.inr ⟨1, rfl, rfl, rfl⟩) : e_Sn 100 12 (o_load e_okI 1 13)) t_100_13
noncomputable def n_100_9 : e_Y := u_getf 10 2 (u_old (o_getf (e_f1 10 2) 12) n_100_12) n_100_12
theorem t_100_9 : e_Sn 100 9 (e_un n_100_9) := u_getfT (s_getf (C := er_10) (T := et_10) (N := 11) (ref := "Plateroomprinter$State") (index := 25) (ci := 10) (k := 2) hq_100 ho_100 ⟨rfl, by decide, ei_10, (List.mem_of_getElem? (i := 322) (by decide +kernel)), .inl rfl⟩ (by decide +kernel) rfl : e_Sn 100 9 (o_getf (e_f1 10 2) 12)) t_100_12
noncomputable def n_100_8 : e_Y := u_ld f_okA f_l0 n_100_9
theorem t_100_8 : e_Sn 100 8 (e_un n_100_8) := u_ldAT f_l0_eq (s_aload (i := .aload_n 0) (len := 1) hq_100 (by decide +kernel) rfl (.inr ⟨0, rfl, rfl, rfl⟩) : e_Sn 100 8 (o_load e_okR 0 9)) t_100_9
noncomputable def n_100_5 : e_Y := u_jmp y_ge (u_old2 (o_clt 8 21) 8 n_100_8 n_100_21) n_100_8 n_100_21
theorem t_100_5 : e_Sn 100 5 (e_un n_100_5) := u_cltT rfl (s_cge (off := (16)) hq_100 (by decide +kernel) rfl rfl : e_Sn 100 5 (o_clt 8 21)) t_100_8 t_100_21
noncomputable def n_100_3 : e_Y := u_push (.inl 2147483680) n_100_5
theorem t_100_3 : e_Sn 100 3 (e_un n_100_3) := u_pushT (s_bipush (n := (32)) hq_100 (by decide +kernel) rfl ⟨by decide +kernel, by decide +kernel⟩ : e_Sn 100 3 (o_push (.inl 2147483680) 5)) t_100_5
noncomputable def n_100_2 : e_Y := u_ld f_okI f_l1 n_100_3
theorem t_100_2 : e_Sn 100 2 (e_un n_100_2) := u_ldIT f_l1_eq (s_iload (i := .iload_n 1) (len := 1) hq_100 (by decide +kernel) rfl (.inr ⟨1, rfl, rfl, rfl⟩) : e_Sn 100 2 (o_load e_okI 1 3)) t_100_3
noncomputable def n_100_1 : e_Y := u_st f_okI f_s1 n_100_2
theorem t_100_1 : e_Sn 100 1 (e_un n_100_1) := u_stIT (fun _ _ _ => f_s1_eq) (s_istore (i := .istore_n 1) (len := 1) hq_100 (by decide +kernel) rfl (.inr ⟨1, rfl, rfl, rfl⟩) : e_Sn 100 1 (o_store e_okI 1 2)) t_100_2
noncomputable def n_100_0 : e_Y := u_push (.inl 2147483648) n_100_1
theorem t_100_0 : e_Sn 100 0 (e_un n_100_0) := u_pushT (s_iconst (n := (0)) hq_100 (by decide +kernel) rfl ⟨by decide +kernel, by decide +kernel⟩ : e_Sn 100 0 (o_push (.inl 2147483648) 1)) t_100_1
noncomputable def e_tb_100 : e_X := (e_br 2 (e_lf 0 (e_un n_100_0)) (e_lf 2 (e_un n_100_2)))
theorem e_tk_100 : e_Tb 100 e_tb_100 := (e_brT (e_lfT t_100_0) (e_lfT t_100_2))
theorem hq_97 : (e_ml[97]?).map (·.2.1) = some prog_11_method_2_code := rfl
theorem ho_97 : (e_ml[97]?).map (·.1.cls) = some "Plateroomprinter$State" := rfl
theorem hr_97 : (e_ml[97]?).map (·.2.2.2) = some none := rfl
noncomputable def n_97_65 : e_Y := u_tab (o_retv)
theorem t_97_65 : e_Sn 97 65 (e_un n_97_65) := u_tabT (s_vret hq_97 hr_97 (by decide +kernel) : e_Sn 97 65 (o_retv))
noncomputable def n_97_62 : e_Y := u_old (o_putf (e_f1 10 10) e_okI 65) n_97_65
theorem t_97_62 : e_Sn 97 62 (e_un n_97_62) := u_oldT (s_putf (ty0 := ey_10) (ok := e_okI) (C := er_10) (T := et_10) (N := 11) (ref := "Plateroomprinter$State") (index := 51) (ci := 10) (k := 10) hq_97 ho_97 ⟨rfl, by decide, ei_10, (List.mem_of_getElem? (i := 346) (by decide +kernel)), .inl rfl⟩ eo_10 en_10 e_oksI (.inl rfl) (by decide +kernel) rfl : e_Sn 97 62 (o_putf (e_f1 10 10) e_okI 65)) t_97_65 (e_cg_putf (e_f1 10 10) e_okI)
noncomputable def n_97_61 : e_Y := u_push (.inl 2147483649) n_97_62
theorem t_97_61 : e_Sn 97 61 (e_un n_97_61) := u_pushT (s_iconst (n := (1)) hq_97 (by decide +kernel) rfl ⟨by decide +kernel, by decide +kernel⟩ : e_Sn 97 61 (o_push (.inl 2147483649) 62)) t_97_62
noncomputable def n_97_60 : e_Y := u_ld f_okA f_l0 n_97_61
theorem t_97_60 : e_Sn 97 60 (e_un n_97_60) := u_ldAT f_l0_eq (s_aload (i := .aload_n 0) (len := 1) hq_97 (by decide +kernel) rfl (.inr ⟨0, rfl, rfl, rfl⟩) : e_Sn 97 60 (o_load e_okR 0 61)) t_97_61
noncomputable def n_97_57 : e_Y := u_old (o_putf (e_f1 10 9) e_okI 60) n_97_60
theorem t_97_57 : e_Sn 97 57 (e_un n_97_57) := u_oldT (s_putf (ty0 := ey_10) (ok := e_okI) (C := er_10) (T := et_10) (N := 11) (ref := "Plateroomprinter$State") (index := 48) (ci := 10) (k := 9) hq_97 ho_97 ⟨rfl, by decide, ei_10, (List.mem_of_getElem? (i := 343) (by decide +kernel)), .inl rfl⟩ eo_10 en_10 e_oksI (.inl rfl) (by decide +kernel) rfl : e_Sn 97 57 (o_putf (e_f1 10 9) e_okI 60)) t_97_60 (e_cg_putf (e_f1 10 9) e_okI)
noncomputable def n_97_56 : e_Y := u_push (.inl 2147483648) n_97_57
theorem t_97_56 : e_Sn 97 56 (e_un n_97_56) := u_pushT (s_iconst (n := (0)) hq_97 (by decide +kernel) rfl ⟨by decide +kernel, by decide +kernel⟩ : e_Sn 97 56 (o_push (.inl 2147483648) 57)) t_97_57
noncomputable def n_97_55 : e_Y := u_ld f_okA f_l0 n_97_56
theorem t_97_55 : e_Sn 97 55 (e_un n_97_55) := u_ldAT f_l0_eq (s_aload (i := .aload_n 0) (len := 1) hq_97 (by decide +kernel) rfl (.inr ⟨0, rfl, rfl, rfl⟩) : e_Sn 97 55 (o_load e_okR 0 56)) t_97_56
noncomputable def n_97_52 : e_Y := u_old (o_putf (e_f1 10 8) e_okI 55) n_97_55
theorem t_97_52 : e_Sn 97 52 (e_un n_97_52) := u_oldT (s_putf (ty0 := ey_10) (ok := e_okI) (C := er_10) (T := et_10) (N := 11) (ref := "Plateroomprinter$State") (index := 45) (ci := 10) (k := 8) hq_97 ho_97 ⟨rfl, by decide, ei_10, (List.mem_of_getElem? (i := 340) (by decide +kernel)), .inl rfl⟩ eo_10 en_10 e_oksI (.inl rfl) (by decide +kernel) rfl : e_Sn 97 52 (o_putf (e_f1 10 8) e_okI 55)) t_97_55 (e_cg_putf (e_f1 10 8) e_okI)
noncomputable def n_97_51 : e_Y := u_push (.inl 2147483648) n_97_52
theorem t_97_51 : e_Sn 97 51 (e_un n_97_51) := u_pushT (s_iconst (n := (0)) hq_97 (by decide +kernel) rfl ⟨by decide +kernel, by decide +kernel⟩ : e_Sn 97 51 (o_push (.inl 2147483648) 52)) t_97_52
noncomputable def n_97_50 : e_Y := u_ld f_okA f_l0 n_97_51
theorem t_97_50 : e_Sn 97 50 (e_un n_97_50) := u_ldAT f_l0_eq (s_aload (i := .aload_n 0) (len := 1) hq_97 (by decide +kernel) rfl (.inr ⟨0, rfl, rfl, rfl⟩) : e_Sn 97 50 (o_load e_okR 0 51)) t_97_51
noncomputable def n_97_47 : e_Y := u_old (o_putf (e_f1 10 7) e_okI 50) n_97_50
theorem t_97_47 : e_Sn 97 47 (e_un n_97_47) := u_oldT (s_putf (ty0 := ey_10) (ok := e_okI) (C := er_10) (T := et_10) (N := 11) (ref := "Plateroomprinter$State") (index := 41) (ci := 10) (k := 7) hq_97 ho_97 ⟨rfl, by decide, ei_10, (List.mem_of_getElem? (i := 337) (by decide +kernel)), .inl rfl⟩ eo_10 en_10 e_oksI (.inl rfl) (by decide +kernel) rfl : e_Sn 97 47 (o_putf (e_f1 10 7) e_okI 50)) t_97_50 (e_cg_putf (e_f1 10 7) e_okI)
noncomputable def n_97_46 : e_Y := u_push (.inl 2147483649) n_97_47
theorem t_97_46 : e_Sn 97 46 (e_un n_97_46) := u_pushT (s_iconst (n := (1)) hq_97 (by decide +kernel) rfl ⟨by decide +kernel, by decide +kernel⟩ : e_Sn 97 46 (o_push (.inl 2147483649) 47)) t_97_47
noncomputable def n_97_45 : e_Y := u_ld f_okA f_l0 n_97_46
theorem t_97_45 : e_Sn 97 45 (e_un n_97_45) := u_ldAT f_l0_eq (s_aload (i := .aload_n 0) (len := 1) hq_97 (by decide +kernel) rfl (.inr ⟨0, rfl, rfl, rfl⟩) : e_Sn 97 45 (o_load e_okR 0 46)) t_97_46
noncomputable def n_97_42 : e_Y := (u_at 17)
theorem t_97_42 : e_Sn 97 42 (e_un n_97_42) := u_gotoT (s_goto (off := (-25)) hq_97 (by decide +kernel) rfl : e_Sn 97 42 (o_goto 17)) u_atT
noncomputable def n_97_39 : e_Y := u_inc f_l1 f_s1 1 n_97_42
theorem t_97_39 : e_Sn 97 39 (e_un n_97_39) := u_incT f_l1_eq (fun _ _ _ => f_s1_eq) (s_iinc (zz := (1)) hq_97 (by decide +kernel) rfl (by decide +kernel) ⟨by decide, by decide⟩ : e_Sn 97 39 (o_iinc 1 1 42)) t_97_42
noncomputable def n_97_38 : e_Y := u_old (o_ast 0 e_okI 39) n_97_39
theorem t_97_38 : e_Sn 97 38 (e_un n_97_38) := u_oldT (s_iast hq_97 (by decide +kernel) rfl : e_Sn 97 38 (o_ast 0 e_okI 39)) t_97_39 (e_cg_ast 0 e_okI)
noncomputable def n_97_37 : e_Y := u_push (.inl 2147483648) n_97_38
theorem t_97_37 : e_Sn 97 37 (e_un n_97_37) := u_pushT (s_iconst (n := (0)) hq_97 (by decide +kernel) rfl ⟨by decide +kernel, by decide +kernel⟩ : e_Sn 97 37 (o_push (.inl 2147483648) 38)) t_97_38
noncomputable def n_97_34 : e_Y := n_97_38
theorem t_97_34 : e_Sn 97 34 (e_un n_97_34) := u_gotoT (s_goto (off := (4)) hq_97 (by decide +kernel) rfl : e_Sn 97 34 (o_goto 38)) t_97_38
noncomputable def n_97_32 : e_Y := u_push (.inl 2147483664) n_97_34
theorem t_97_32 : e_Sn 97 32 (e_un n_97_32) := u_pushT (s_bipush (n := (16)) hq_97 (by decide +kernel) rfl ⟨by decide +kernel, by decide +kernel⟩ : e_Sn 97 32 (o_push (.inl 2147483664) 34)) t_97_34
noncomputable def n_97_29 : e_Y := u_jmp y_ne (u_old2 (o_ceq 32 37) 32 n_97_32 n_97_37) n_97_32 n_97_37
theorem t_97_29 : e_Sn 97 29 (e_un n_97_29) := u_ceqT rfl (s_cne (off := (8)) hq_97 (by decide +kernel) rfl rfl : e_Sn 97 29 (o_ceq 32 37)) t_97_32 t_97_37
noncomputable def n_97_28 : e_Y := u_push (.inl 2147483651) n_97_29
theorem t_97_28 : e_Sn 97 28 (e_un n_97_28) := u_pushT (s_iconst (n := (3)) hq_97 (by decide +kernel) rfl ⟨by decide +kernel, by decide +kernel⟩ : e_Sn 97 28 (o_push (.inl 2147483651) 29)) t_97_29
noncomputable def n_97_27 : e_Y := u_ld f_okI f_l1 n_97_28
theorem t_97_27 : e_Sn 97 27 (e_un n_97_27) := u_ldIT f_l1_eq (s_iload (i := .iload_n 1) (len := 1) hq_97 (by decide +kernel) rfl (.inr ⟨1, rfl, rfl, rfl⟩) : e_Sn 97 27 (o_load e_okI 1 28)) t_97_28
noncomputable def n_97_26 : e_Y := u_ld f_okI f_l1 n_97_27
theorem t_97_26 : e_Sn 97 26 (e_un n_97_26) := u_ldIT f_l1_eq (s_iload (i := .iload_n 1) (len := 1) hq_97 (by decide +kernel) rfl (.inr ⟨1, rfl, rfl, rfl⟩) : e_Sn 97 26 (o_load e_okI 1 27)) t_97_27
noncomputable def n_97_23 : e_Y := u_getf 10 3 (u_old (o_getf (e_f1 10 3) 26) n_97_26) n_97_26
theorem t_97_23 : e_Sn 97 23 (e_un n_97_23) := u_getfT (s_getf (C := er_10) (T := et_10) (N := 11) (ref := "Plateroomprinter$State") (index := 29) (ci := 10) (k := 3) hq_97 ho_97 ⟨rfl, by decide, ei_10, (List.mem_of_getElem? (i := 325) (by decide +kernel)), .inl rfl⟩ (by decide +kernel) rfl : e_Sn 97 23 (o_getf (e_f1 10 3) 26)) t_97_26
noncomputable def n_97_22 : e_Y := u_ld f_okA f_l0 n_97_23
theorem t_97_22 : e_Sn 97 22 (e_un n_97_22) := u_ldAT f_l0_eq (s_aload (i := .aload_n 0) (len := 1) hq_97 (by decide +kernel) rfl (.inr ⟨0, rfl, rfl, rfl⟩) : e_Sn 97 22 (o_load e_okR 0 23)) t_97_23
noncomputable def n_97_19 : e_Y := u_jmp y_ge (u_old2 (o_clt 22 45) 22 n_97_22 n_97_45) n_97_22 n_97_45
theorem t_97_19 : e_Sn 97 19 (e_un n_97_19) := u_cltT rfl (s_cge (off := (26)) hq_97 (by decide +kernel) rfl rfl : e_Sn 97 19 (o_clt 22 45)) t_97_22 t_97_45
noncomputable def n_97_18 : e_Y := u_push (.inl 2147483652) n_97_19
theorem t_97_18 : e_Sn 97 18 (e_un n_97_18) := u_pushT (s_iconst (n := (4)) hq_97 (by decide +kernel) rfl ⟨by decide +kernel, by decide +kernel⟩ : e_Sn 97 18 (o_push (.inl 2147483652) 19)) t_97_19
noncomputable def n_97_17 : e_Y := u_ld f_okI f_l1 n_97_18
theorem t_97_17 : e_Sn 97 17 (e_un n_97_17) := u_ldIT f_l1_eq (s_iload (i := .iload_n 1) (len := 1) hq_97 (by decide +kernel) rfl (.inr ⟨1, rfl, rfl, rfl⟩) : e_Sn 97 17 (o_load e_okI 1 18)) t_97_18
noncomputable def n_97_16 : e_Y := u_st f_okI f_s1 n_97_17
theorem t_97_16 : e_Sn 97 16 (e_un n_97_16) := u_stIT (fun _ _ _ => f_s1_eq) (s_istore (i := .istore_n 1) (len := 1) hq_97 (by decide +kernel) rfl (.inr ⟨1, rfl, rfl, rfl⟩) : e_Sn 97 16 (o_store e_okI 1 17)) t_97_17
noncomputable def n_97_15 : e_Y := u_push (.inl 2147483648) n_97_16
theorem t_97_15 : e_Sn 97 15 (e_un n_97_15) := u_pushT (s_iconst (n := (0)) hq_97 (by decide +kernel) rfl ⟨by decide +kernel, by decide +kernel⟩ : e_Sn 97 15 (o_push (.inl 2147483648) 16)) t_97_16
noncomputable def n_97_12 : e_Y := u_callV 10 100 2 21 1 n_100_0 n_97_15
theorem t_97_12 : e_Sn 97 12 (e_un n_97_12) := u_callVT rfl (s_callV (ci := 10) (C := er_10) (T := et_10) (N := 11) (index := 38) hq_97 ho_97 hy_100 hp_100 hc_100 hi_100 hd_100 (List.mem_of_getElem? (i := 447) (by decide +kernel)) hs_100 (List.mem_of_getElem? (i := 449) (by decide +kernel)) rfl (by decide +kernel) rfl : e_Sn 97 12 (o_callV (e_s1 10 100 2) 1 15)) t_100_0 t_97_15
noncomputable def n_97_11 : e_Y := u_ld f_okA f_l0 n_97_12
theorem t_97_11 : e_Sn 97 11 (e_un n_97_11) := u_ldAT f_l0_eq (s_aload (i := .aload_n 0) (len := 1) hq_97 (by decide +kernel) rfl (.inr ⟨0, rfl, rfl, rfl⟩) : e_Sn 97 11 (o_load e_okR 0 12)) t_97_12
noncomputable def n_97_8 : e_Y := u_callV 10 99 1 20 1 n_99_0 n_97_11
theorem t_97_8 : e_Sn 97 8 (e_un n_97_8) := u_callVT rfl (s_callV (ci := 10) (C := er_10) (T := et_10) (N := 11) (index := 35) hq_97 ho_97 hy_99 hp_99 hc_99 hi_99 hd_99 (List.mem_of_getElem? (i := 439) (by decide +kernel)) hs_99 (List.mem_of_getElem? (i := 441) (by decide +kernel)) rfl (by decide +kernel) rfl : e_Sn 97 8 (o_callV (e_s1 10 99 1) 1 11)) t_99_0 t_97_11
noncomputable def n_97_7 : e_Y := u_ld f_okA f_l0 n_97_8
theorem t_97_7 : e_Sn 97 7 (e_un n_97_7) := u_ldAT f_l0_eq (s_aload (i := .aload_n 0) (len := 1) hq_97 (by decide +kernel) rfl (.inr ⟨0, rfl, rfl, rfl⟩) : e_Sn 97 7 (o_load e_okR 0 8)) t_97_8
noncomputable def n_97_4 : e_Y := u_callV 5 78 2 21 1 n_78_0 n_97_7
theorem t_97_4 : e_Sn 97 4 (e_un n_97_4) := u_callVT rfl (s_callV (ci := 5) (C := er_5) (T := et_5) (N := 5) (index := 32) hq_97 ho_97 hy_78 hp_78 hc_78 hi_78 hd_78 (List.mem_of_getElem? (i := 435) (by decide +kernel)) hs_78 (List.mem_of_getElem? (i := 437) (by decide +kernel)) rfl (by decide +kernel) rfl : e_Sn 97 4 (o_callV (e_s1 5 78 2) 1 7)) t_78_0 t_97_7
noncomputable def n_97_1 : e_Y := u_getf 10 0 (u_old (o_getf (e_f1 10 0) 4) n_97_4) n_97_4
theorem t_97_1 : e_Sn 97 1 (e_un n_97_1) := u_getfT (s_getf (C := er_10) (T := et_10) (N := 11) (ref := "Plateroomprinter$State") (index := 12) (ci := 10) (k := 0) hq_97 ho_97 ⟨rfl, by decide, ei_10, (List.mem_of_getElem? (i := 316) (by decide +kernel)), .inl rfl⟩ (by decide +kernel) rfl : e_Sn 97 1 (o_getf (e_f1 10 0) 4)) t_97_4
noncomputable def n_97_0 : e_Y := u_ld f_okA f_l0 n_97_1
theorem t_97_0 : e_Sn 97 0 (e_un n_97_0) := u_ldAT f_l0_eq (s_aload (i := .aload_n 0) (len := 1) hq_97 (by decide +kernel) rfl (.inr ⟨0, rfl, rfl, rfl⟩) : e_Sn 97 0 (o_load e_okR 0 1)) t_97_1
noncomputable def e_tb_97 : e_X := (e_br 17 (e_lf 0 (e_un n_97_0)) (e_lf 17 (e_un n_97_17)))
theorem e_tk_97 : e_Tb 97 e_tb_97 := (e_brT (e_lfT t_97_0) (e_lfT t_97_17))
theorem hq_102 : (e_ml[102]?).map (·.2.1) = some prog_12_method_2_code := rfl
theorem ho_102 : (e_ml[102]?).map (·.1.cls) = some "Plateroomprinter$World" := rfl
theorem hr_102 : (e_ml[102]?).map (·.2.2.2) = some none := rfl
noncomputable def n_102_121 : e_Y := u_tab (o_retv)
theorem t_102_121 : e_Sn 102 121 (e_un n_102_121) := u_tabT (s_vret hq_102 hr_102 (by decide +kernel) : e_Sn 102 121 (o_retv))
noncomputable def n_102_118 : e_Y := u_old (o_putf (e_f1 11 14) e_okI 121) n_102_121
theorem t_102_118 : e_Sn 102 118 (e_un n_102_118) := u_oldT (s_putf (ty0 := ey_11) (ok := e_okI) (C := er_11) (T := et_11) (N := 15) (ref := "Plateroomprinter$World") (index := 89) (ci := 11) (k := 14) hq_102 ho_102 ⟨rfl, by decide, ei_11, (List.mem_of_getElem? (i := 500) (by decide +kernel)), .inl rfl⟩ eo_11 en_11 e_oksI (.inl rfl) (by decide +kernel) rfl : e_Sn 102 118 (o_putf (e_f1 11 14) e_okI 121)) t_102_121 (e_cg_putf (e_f1 11 14) e_okI)
noncomputable def n_102_117 : e_Y := u_push (.inl 2147483648) n_102_118
theorem t_102_117 : e_Sn 102 117 (e_un n_102_117) := u_pushT (s_iconst (n := (0)) hq_102 (by decide +kernel) rfl ⟨by decide +kernel, by decide +kernel⟩ : e_Sn 102 117 (o_push (.inl 2147483648) 118)) t_102_118
noncomputable def n_102_116 : e_Y := u_ld f_okA f_l0 n_102_117
theorem t_102_116 : e_Sn 102 116 (e_un n_102_116) := u_ldAT f_l0_eq (s_aload (i := .aload_n 0) (len := 1) hq_102 (by decide +kernel) rfl (.inr ⟨0, rfl, rfl, rfl⟩) : e_Sn 102 116 (o_load e_okR 0 117)) t_102_117
noncomputable def n_102_113 : e_Y := u_old (o_putf (e_f1 11 13) e_okI 116) n_102_116
theorem t_102_113 : e_Sn 102 113 (e_un n_102_113) := u_oldT (s_putf (ty0 := ey_11) (ok := e_okI) (C := er_11) (T := et_11) (N := 15) (ref := "Plateroomprinter$World") (index := 86) (ci := 11) (k := 13) hq_102 ho_102 ⟨rfl, by decide, ei_11, (List.mem_of_getElem? (i := 497) (by decide +kernel)), .inl rfl⟩ eo_11 en_11 e_oksI (.inl rfl) (by decide +kernel) rfl : e_Sn 102 113 (o_putf (e_f1 11 13) e_okI 116)) t_102_116 (e_cg_putf (e_f1 11 13) e_okI)
noncomputable def n_102_112 : e_Y := u_push (.inl 2147483648) n_102_113
theorem t_102_112 : e_Sn 102 112 (e_un n_102_112) := u_pushT (s_iconst (n := (0)) hq_102 (by decide +kernel) rfl ⟨by decide +kernel, by decide +kernel⟩ : e_Sn 102 112 (o_push (.inl 2147483648) 113)) t_102_113
noncomputable def n_102_111 : e_Y := u_ld f_okA f_l0 n_102_112
theorem t_102_111 : e_Sn 102 111 (e_un n_102_111) := u_ldAT f_l0_eq (s_aload (i := .aload_n 0) (len := 1) hq_102 (by decide +kernel) rfl (.inr ⟨0, rfl, rfl, rfl⟩) : e_Sn 102 111 (o_load e_okR 0 112)) t_102_112
noncomputable def n_102_108 : e_Y := u_old (o_putf (e_f1 11 12) e_okI 111) n_102_111
theorem t_102_108 : e_Sn 102 108 (e_un n_102_108) := u_oldT (s_putf (ty0 := ey_11) (ok := e_okI) (C := er_11) (T := et_11) (N := 15) (ref := "Plateroomprinter$World") (index := 83) (ci := 11) (k := 12) hq_102 ho_102 ⟨rfl, by decide, ei_11, (List.mem_of_getElem? (i := 494) (by decide +kernel)), .inl rfl⟩ eo_11 en_11 e_oksI (.inl rfl) (by decide +kernel) rfl : e_Sn 102 108 (o_putf (e_f1 11 12) e_okI 111)) t_102_111 (e_cg_putf (e_f1 11 12) e_okI)
noncomputable def n_102_107 : e_Y := u_push (.inl 2147483648) n_102_108
theorem t_102_107 : e_Sn 102 107 (e_un n_102_107) := u_pushT (s_iconst (n := (0)) hq_102 (by decide +kernel) rfl ⟨by decide +kernel, by decide +kernel⟩ : e_Sn 102 107 (o_push (.inl 2147483648) 108)) t_102_108
noncomputable def n_102_106 : e_Y := u_ld f_okA f_l0 n_102_107
theorem t_102_106 : e_Sn 102 106 (e_un n_102_106) := u_ldAT f_l0_eq (s_aload (i := .aload_n 0) (len := 1) hq_102 (by decide +kernel) rfl (.inr ⟨0, rfl, rfl, rfl⟩) : e_Sn 102 106 (o_load e_okR 0 107)) t_102_107
noncomputable def n_102_103 : e_Y := (u_at 87)
theorem t_102_103 : e_Sn 102 103 (e_un n_102_103) := u_gotoT (s_goto (off := (-16)) hq_102 (by decide +kernel) rfl : e_Sn 102 103 (o_goto 87)) u_atT
noncomputable def n_102_100 : e_Y := u_inc f_l1 f_s1 1 n_102_103
theorem t_102_100 : e_Sn 102 100 (e_un n_102_100) := u_incT f_l1_eq (fun _ _ _ => f_s1_eq) (s_iinc (zz := (1)) hq_102 (by decide +kernel) rfl (by decide +kernel) ⟨by decide, by decide⟩ : e_Sn 102 100 (o_iinc 1 1 103)) t_102_103
noncomputable def n_102_99 : e_Y := u_old (o_ast 0 e_okI 100) n_102_100
theorem t_102_99 : e_Sn 102 99 (e_un n_102_99) := u_oldT (s_iast hq_102 (by decide +kernel) rfl : e_Sn 102 99 (o_ast 0 e_okI 100)) t_102_100 (e_cg_ast 0 e_okI)
noncomputable def n_102_98 : e_Y := u_push (.inl 2147483648) n_102_99
theorem t_102_98 : e_Sn 102 98 (e_un n_102_98) := u_pushT (s_iconst (n := (0)) hq_102 (by decide +kernel) rfl ⟨by decide +kernel, by decide +kernel⟩ : e_Sn 102 98 (o_push (.inl 2147483648) 99)) t_102_99
noncomputable def n_102_97 : e_Y := u_ld f_okI f_l1 n_102_98
theorem t_102_97 : e_Sn 102 97 (e_un n_102_97) := u_ldIT f_l1_eq (s_iload (i := .iload_n 1) (len := 1) hq_102 (by decide +kernel) rfl (.inr ⟨1, rfl, rfl, rfl⟩) : e_Sn 102 97 (o_load e_okI 1 98)) t_102_98
noncomputable def n_102_94 : e_Y := u_getf 11 11 (u_old (o_getf (e_f1 11 11) 97) n_102_97) n_102_97
theorem t_102_94 : e_Sn 102 94 (e_un n_102_94) := u_getfT (s_getf (C := er_11) (T := et_11) (N := 15) (ref := "Plateroomprinter$World") (index := 61) (ci := 11) (k := 11) hq_102 ho_102 ⟨rfl, by decide, ei_11, (List.mem_of_getElem? (i := 491) (by decide +kernel)), .inl rfl⟩ (by decide +kernel) rfl : e_Sn 102 94 (o_getf (e_f1 11 11) 97)) t_102_97
noncomputable def n_102_93 : e_Y := u_ld f_okA f_l0 n_102_94
theorem t_102_93 : e_Sn 102 93 (e_un n_102_93) := u_ldAT f_l0_eq (s_aload (i := .aload_n 0) (len := 1) hq_102 (by decide +kernel) rfl (.inr ⟨0, rfl, rfl, rfl⟩) : e_Sn 102 93 (o_load e_okR 0 94)) t_102_94
noncomputable def n_102_90 : e_Y := u_jmp y_ge (u_old2 (o_clt 93 106) 93 n_102_93 n_102_106) n_102_93 n_102_106
theorem t_102_90 : e_Sn 102 90 (e_un n_102_90) := u_cltT rfl (s_cge (off := (16)) hq_102 (by decide +kernel) rfl rfl : e_Sn 102 90 (o_clt 93 106)) t_102_93 t_102_106
noncomputable def n_102_88 : e_Y := u_push (.inl 2147483701) n_102_90
theorem t_102_88 : e_Sn 102 88 (e_un n_102_88) := u_pushT (s_bipush (n := (53)) hq_102 (by decide +kernel) rfl ⟨by decide +kernel, by decide +kernel⟩ : e_Sn 102 88 (o_push (.inl 2147483701) 90)) t_102_90
noncomputable def n_102_87 : e_Y := u_ld f_okI f_l1 n_102_88
theorem t_102_87 : e_Sn 102 87 (e_un n_102_87) := u_ldIT f_l1_eq (s_iload (i := .iload_n 1) (len := 1) hq_102 (by decide +kernel) rfl (.inr ⟨1, rfl, rfl, rfl⟩) : e_Sn 102 87 (o_load e_okI 1 88)) t_102_88
noncomputable def n_102_86 : e_Y := u_st f_okI f_s1 n_102_87
theorem t_102_86 : e_Sn 102 86 (e_un n_102_86) := u_stIT (fun _ _ _ => f_s1_eq) (s_istore (i := .istore_n 1) (len := 1) hq_102 (by decide +kernel) rfl (.inr ⟨1, rfl, rfl, rfl⟩) : e_Sn 102 86 (o_store e_okI 1 87)) t_102_87
noncomputable def n_102_85 : e_Y := u_push (.inl 2147483648) n_102_86
theorem t_102_85 : e_Sn 102 85 (e_un n_102_85) := u_pushT (s_iconst (n := (0)) hq_102 (by decide +kernel) rfl ⟨by decide +kernel, by decide +kernel⟩ : e_Sn 102 85 (o_push (.inl 2147483648) 86)) t_102_86
noncomputable def n_102_82 : e_Y := u_old (o_putf (e_f1 11 10) e_okI 85) n_102_85
theorem t_102_82 : e_Sn 102 82 (e_un n_102_82) := u_oldT (s_putf (ty0 := ey_11) (ok := e_okI) (C := er_11) (T := et_11) (N := 15) (ref := "Plateroomprinter$World") (index := 80) (ci := 11) (k := 10) hq_102 ho_102 ⟨rfl, by decide, ei_11, (List.mem_of_getElem? (i := 488) (by decide +kernel)), .inl rfl⟩ eo_11 en_11 e_oksI (.inl rfl) (by decide +kernel) rfl : e_Sn 102 82 (o_putf (e_f1 11 10) e_okI 85)) t_102_85 (e_cg_putf (e_f1 11 10) e_okI)
noncomputable def n_102_81 : e_Y := u_push (.inl 2147483648) n_102_82
theorem t_102_81 : e_Sn 102 81 (e_un n_102_81) := u_pushT (s_iconst (n := (0)) hq_102 (by decide +kernel) rfl ⟨by decide +kernel, by decide +kernel⟩ : e_Sn 102 81 (o_push (.inl 2147483648) 82)) t_102_82
noncomputable def n_102_80 : e_Y := u_ld f_okA f_l0 n_102_81
theorem t_102_80 : e_Sn 102 80 (e_un n_102_80) := u_ldAT f_l0_eq (s_aload (i := .aload_n 0) (len := 1) hq_102 (by decide +kernel) rfl (.inr ⟨0, rfl, rfl, rfl⟩) : e_Sn 102 80 (o_load e_okR 0 81)) t_102_81
noncomputable def n_102_77 : e_Y := u_old (o_putf (e_f1 3 4) e_okI 80) n_102_80
theorem t_102_77 : e_Sn 102 77 (e_un n_102_77) := u_oldT (s_putf (ty0 := ey_3) (ok := e_okI) (C := er_3) (T := et_3) (N := 5) (ref := "Plateroomprinter$Figures") (index := 77) (ci := 3) (k := 4) hq_102 ho_102 ⟨rfl, by decide, ei_3, (List.mem_of_getElem? (i := 401) (by decide +kernel)), .inl rfl⟩ eo_3 en_3 e_oksI (.inl rfl) (by decide +kernel) rfl : e_Sn 102 77 (o_putf (e_f1 3 4) e_okI 80)) t_102_80 (e_cg_putf (e_f1 3 4) e_okI)
noncomputable def n_102_76 : e_Y := u_push (.inl 2147483648) n_102_77
theorem t_102_76 : e_Sn 102 76 (e_un n_102_76) := u_pushT (s_iconst (n := (0)) hq_102 (by decide +kernel) rfl ⟨by decide +kernel, by decide +kernel⟩ : e_Sn 102 76 (o_push (.inl 2147483648) 77)) t_102_77
noncomputable def n_102_73 : e_Y := u_getf 11 9 (u_old (o_getf (e_f1 11 9) 76) n_102_76) n_102_76
theorem t_102_73 : e_Sn 102 73 (e_un n_102_73) := u_getfT (s_getf (C := er_11) (T := et_11) (N := 15) (ref := "Plateroomprinter$World") (index := 57) (ci := 11) (k := 9) hq_102 ho_102 ⟨rfl, by decide, ei_11, (List.mem_of_getElem? (i := 485) (by decide +kernel)), .inl rfl⟩ (by decide +kernel) rfl : e_Sn 102 73 (o_getf (e_f1 11 9) 76)) t_102_76
noncomputable def n_102_72 : e_Y := u_ld f_okA f_l0 n_102_73
theorem t_102_72 : e_Sn 102 72 (e_un n_102_72) := u_ldAT f_l0_eq (s_aload (i := .aload_n 0) (len := 1) hq_102 (by decide +kernel) rfl (.inr ⟨0, rfl, rfl, rfl⟩) : e_Sn 102 72 (o_load e_okR 0 73)) t_102_73
noncomputable def n_102_69 : e_Y := u_callV 9 92 1 20 1 n_92_0 n_102_72
theorem t_102_69 : e_Sn 102 69 (e_un n_102_69) := u_callVT rfl (s_callV (ci := 9) (C := er_9) (T := et_9) (N := 1) (index := 76) hq_102 ho_102 hy_92 hp_92 hc_92 hi_92 hd_92 (List.mem_of_getElem? (i := 452) (by decide +kernel)) hs_92 (List.mem_of_getElem? (i := 454) (by decide +kernel)) rfl (by decide +kernel) rfl : e_Sn 102 69 (o_callV (e_s1 9 92 1) 1 72)) t_92_0 t_102_72
noncomputable def n_102_66 : e_Y := u_getf 11 8 (u_old (o_getf (e_f1 11 8) 69) n_102_69) n_102_69
theorem t_102_66 : e_Sn 102 66 (e_un n_102_66) := u_getfT (s_getf (C := er_11) (T := et_11) (N := 15) (ref := "Plateroomprinter$World") (index := 51) (ci := 11) (k := 8) hq_102 ho_102 ⟨rfl, by decide, ei_11, (List.mem_of_getElem? (i := 482) (by decide +kernel)), .inl rfl⟩ (by decide +kernel) rfl : e_Sn 102 66 (o_getf (e_f1 11 8) 69)) t_102_69
noncomputable def n_102_65 : e_Y := u_ld f_okA f_l0 n_102_66
theorem t_102_65 : e_Sn 102 65 (e_un n_102_65) := u_ldAT f_l0_eq (s_aload (i := .aload_n 0) (len := 1) hq_102 (by decide +kernel) rfl (.inr ⟨0, rfl, rfl, rfl⟩) : e_Sn 102 65 (o_load e_okR 0 66)) t_102_66
noncomputable def n_102_62 : e_Y := u_callV 9 92 1 20 1 n_92_0 n_102_65
theorem t_102_62 : e_Sn 102 62 (e_un n_102_62) := u_callVT rfl (s_callV (ci := 9) (C := er_9) (T := et_9) (N := 1) (index := 76) hq_102 ho_102 hy_92 hp_92 hc_92 hi_92 hd_92 (List.mem_of_getElem? (i := 452) (by decide +kernel)) hs_92 (List.mem_of_getElem? (i := 454) (by decide +kernel)) rfl (by decide +kernel) rfl : e_Sn 102 62 (o_callV (e_s1 9 92 1) 1 65)) t_92_0 t_102_65
noncomputable def n_102_59 : e_Y := u_getf 11 7 (u_old (o_getf (e_f1 11 7) 62) n_102_62) n_102_62
theorem t_102_59 : e_Sn 102 59 (e_un n_102_59) := u_getfT (s_getf (C := er_11) (T := et_11) (N := 15) (ref := "Plateroomprinter$World") (index := 47) (ci := 11) (k := 7) hq_102 ho_102 ⟨rfl, by decide, ei_11, (List.mem_of_getElem? (i := 479) (by decide +kernel)), .inl rfl⟩ (by decide +kernel) rfl : e_Sn 102 59 (o_getf (e_f1 11 7) 62)) t_102_62
noncomputable def n_102_58 : e_Y := u_ld f_okA f_l0 n_102_59
theorem t_102_58 : e_Sn 102 58 (e_un n_102_58) := u_ldAT f_l0_eq (s_aload (i := .aload_n 0) (len := 1) hq_102 (by decide +kernel) rfl (.inr ⟨0, rfl, rfl, rfl⟩) : e_Sn 102 58 (o_load e_okR 0 59)) t_102_59
noncomputable def n_102_55 : e_Y := (u_at 31)
theorem t_102_55 : e_Sn 102 55 (e_un n_102_55) := u_gotoT (s_goto (off := (-24)) hq_102 (by decide +kernel) rfl : e_Sn 102 55 (o_goto 31)) u_atT
noncomputable def n_102_52 : e_Y := u_inc f_l1 f_s1 1 n_102_55
theorem t_102_52 : e_Sn 102 52 (e_un n_102_52) := u_incT f_l1_eq (fun _ _ _ => f_s1_eq) (s_iinc (zz := (1)) hq_102 (by decide +kernel) rfl (by decide +kernel) ⟨by decide, by decide⟩ : e_Sn 102 52 (o_iinc 1 1 55)) t_102_55
noncomputable def n_102_51 : e_Y := u_old (o_ast 0 e_okI 52) n_102_52
theorem t_102_51 : e_Sn 102 51 (e_un n_102_51) := u_oldT (s_iast hq_102 (by decide +kernel) rfl : e_Sn 102 51 (o_ast 0 e_okI 52)) t_102_52 (e_cg_ast 0 e_okI)
noncomputable def n_102_50 : e_Y := u_push (.inl 2147483648) n_102_51
theorem t_102_50 : e_Sn 102 50 (e_un n_102_50) := u_pushT (s_iconst (n := (0)) hq_102 (by decide +kernel) rfl ⟨by decide +kernel, by decide +kernel⟩ : e_Sn 102 50 (o_push (.inl 2147483648) 51)) t_102_51
noncomputable def n_102_49 : e_Y := u_ld f_okI f_l1 n_102_50
theorem t_102_49 : e_Sn 102 49 (e_un n_102_49) := u_ldIT f_l1_eq (s_iload (i := .iload_n 1) (len := 1) hq_102 (by decide +kernel) rfl (.inr ⟨1, rfl, rfl, rfl⟩) : e_Sn 102 49 (o_load e_okI 1 50)) t_102_50
noncomputable def n_102_46 : e_Y := u_getf 11 6 (u_old (o_getf (e_f1 11 6) 49) n_102_49) n_102_49
theorem t_102_46 : e_Sn 102 46 (e_un n_102_46) := u_getfT (s_getf (C := er_11) (T := et_11) (N := 15) (ref := "Plateroomprinter$World") (index := 40) (ci := 11) (k := 6) hq_102 ho_102 ⟨rfl, by decide, ei_11, (List.mem_of_getElem? (i := 476) (by decide +kernel)), .inl rfl⟩ (by decide +kernel) rfl : e_Sn 102 46 (o_getf (e_f1 11 6) 49)) t_102_49
noncomputable def n_102_45 : e_Y := u_ld f_okA f_l0 n_102_46
theorem t_102_45 : e_Sn 102 45 (e_un n_102_45) := u_ldAT f_l0_eq (s_aload (i := .aload_n 0) (len := 1) hq_102 (by decide +kernel) rfl (.inr ⟨0, rfl, rfl, rfl⟩) : e_Sn 102 45 (o_load e_okR 0 46)) t_102_46
noncomputable def n_102_42 : e_Y := u_callV 7 83 1 20 1 n_83_0 n_102_45
theorem t_102_42 : e_Sn 102 42 (e_un n_102_42) := u_callVT rfl (s_callV (ci := 7) (C := er_7) (T := et_7) (N := 6) (index := 75) hq_102 ho_102 hy_83 hp_83 hc_83 hi_83 hd_83 (List.mem_of_getElem? (i := 451) (by decide +kernel)) hs_83 (List.mem_of_getElem? (i := 445) (by decide +kernel)) rfl (by decide +kernel) rfl : e_Sn 102 42 (o_callV (e_s1 7 83 1) 1 45)) t_83_0 t_102_45
noncomputable def n_102_41 : e_Y := u_ald 4 (u_old (o_aldO 4 42) n_102_42) n_102_42
theorem t_102_41 : e_Sn 102 41 (e_un n_102_41) := u_aldOT (s_aald (tc := 1) rfl hq_102 (by decide +kernel) rfl : e_Sn 102 41 (o_aldO 4 42)) t_102_42
noncomputable def n_102_40 : e_Y := u_ld f_okI f_l1 n_102_41
theorem t_102_40 : e_Sn 102 40 (e_un n_102_40) := u_ldIT f_l1_eq (s_iload (i := .iload_n 1) (len := 1) hq_102 (by decide +kernel) rfl (.inr ⟨1, rfl, rfl, rfl⟩) : e_Sn 102 40 (o_load e_okI 1 41)) t_102_41
noncomputable def n_102_37 : e_Y := u_getf 11 5 (u_old (o_getf (e_f1 11 5) 40) n_102_40) n_102_40
theorem t_102_37 : e_Sn 102 37 (e_un n_102_37) := u_getfT (s_getf (C := er_11) (T := et_11) (N := 15) (ref := "Plateroomprinter$World") (index := 36) (ci := 11) (k := 5) hq_102 ho_102 ⟨rfl, by decide, ei_11, (List.mem_of_getElem? (i := 473) (by decide +kernel)), .inl rfl⟩ (by decide +kernel) rfl : e_Sn 102 37 (o_getf (e_f1 11 5) 40)) t_102_40
noncomputable def n_102_36 : e_Y := u_ld f_okA f_l0 n_102_37
theorem t_102_36 : e_Sn 102 36 (e_un n_102_36) := u_ldAT f_l0_eq (s_aload (i := .aload_n 0) (len := 1) hq_102 (by decide +kernel) rfl (.inr ⟨0, rfl, rfl, rfl⟩) : e_Sn 102 36 (o_load e_okR 0 37)) t_102_37
noncomputable def n_102_33 : e_Y := u_jmp y_ge (u_old2 (o_clt 36 58) 36 n_102_36 n_102_58) n_102_36 n_102_58
theorem t_102_33 : e_Sn 102 33 (e_un n_102_33) := u_cltT rfl (s_cge (off := (25)) hq_102 (by decide +kernel) rfl rfl : e_Sn 102 33 (o_clt 36 58)) t_102_36 t_102_58
noncomputable def n_102_32 : e_Y := u_push (.inl 2147483653) n_102_33
theorem t_102_32 : e_Sn 102 32 (e_un n_102_32) := u_pushT (s_iconst (n := (5)) hq_102 (by decide +kernel) rfl ⟨by decide +kernel, by decide +kernel⟩ : e_Sn 102 32 (o_push (.inl 2147483653) 33)) t_102_33
noncomputable def n_102_31 : e_Y := u_ld f_okI f_l1 n_102_32
theorem t_102_31 : e_Sn 102 31 (e_un n_102_31) := u_ldIT f_l1_eq (s_iload (i := .iload_n 1) (len := 1) hq_102 (by decide +kernel) rfl (.inr ⟨1, rfl, rfl, rfl⟩) : e_Sn 102 31 (o_load e_okI 1 32)) t_102_32
noncomputable def n_102_30 : e_Y := u_st f_okI f_s1 n_102_31
theorem t_102_30 : e_Sn 102 30 (e_un n_102_30) := u_stIT (fun _ _ _ => f_s1_eq) (s_istore (i := .istore_n 1) (len := 1) hq_102 (by decide +kernel) rfl (.inr ⟨1, rfl, rfl, rfl⟩) : e_Sn 102 30 (o_store e_okI 1 31)) t_102_31
noncomputable def n_102_29 : e_Y := u_push (.inl 2147483648) n_102_30
theorem t_102_29 : e_Sn 102 29 (e_un n_102_29) := u_pushT (s_iconst (n := (0)) hq_102 (by decide +kernel) rfl ⟨by decide +kernel, by decide +kernel⟩ : e_Sn 102 29 (o_push (.inl 2147483648) 30)) t_102_30
noncomputable def n_102_26 : e_Y := u_old (o_putf (e_f1 11 4) e_okI 29) n_102_29
theorem t_102_26 : e_Sn 102 26 (e_un n_102_26) := u_oldT (s_putf (ty0 := ey_11) (ok := e_okI) (C := er_11) (T := et_11) (N := 15) (ref := "Plateroomprinter$World") (index := 71) (ci := 11) (k := 4) hq_102 ho_102 ⟨rfl, by decide, ei_11, (List.mem_of_getElem? (i := 470) (by decide +kernel)), .inl rfl⟩ eo_11 en_11 e_oksI (.inl rfl) (by decide +kernel) rfl : e_Sn 102 26 (o_putf (e_f1 11 4) e_okI 29)) t_102_29 (e_cg_putf (e_f1 11 4) e_okI)
noncomputable def n_102_25 : e_Y := u_push (.inl 2147483648) n_102_26
theorem t_102_25 : e_Sn 102 25 (e_un n_102_25) := u_pushT (s_iconst (n := (0)) hq_102 (by decide +kernel) rfl ⟨by decide +kernel, by decide +kernel⟩ : e_Sn 102 25 (o_push (.inl 2147483648) 26)) t_102_26
noncomputable def n_102_24 : e_Y := u_ld f_okA f_l0 n_102_25
theorem t_102_24 : e_Sn 102 24 (e_un n_102_24) := u_ldAT f_l0_eq (s_aload (i := .aload_n 0) (len := 1) hq_102 (by decide +kernel) rfl (.inr ⟨0, rfl, rfl, rfl⟩) : e_Sn 102 24 (o_load e_okR 0 25)) t_102_25
noncomputable def n_102_21 : e_Y := u_callV 10 97 2 21 1 n_97_0 n_102_24
theorem t_102_21 : e_Sn 102 21 (e_un n_102_21) := u_callVT rfl (s_callV (ci := 10) (C := er_10) (T := et_10) (N := 11) (index := 70) hq_102 ho_102 hy_97 hp_97 hc_97 hi_97 hd_97 (List.mem_of_getElem? (i := 431) (by decide +kernel)) hs_97 (List.mem_of_getElem? (i := 433) (by decide +kernel)) rfl (by decide +kernel) rfl : e_Sn 102 21 (o_callV (e_s1 10 97 2) 1 24)) t_97_0 t_102_24
noncomputable def n_102_18 : e_Y := u_getf 11 2 (u_old (o_getf (e_f1 11 2) 21) n_102_21) n_102_21
theorem t_102_18 : e_Sn 102 18 (e_un n_102_18) := u_getfT (s_getf (C := er_11) (T := et_11) (N := 15) (ref := "Plateroomprinter$World") (index := 26) (ci := 11) (k := 2) hq_102 ho_102 ⟨rfl, by decide, ei_11, (List.mem_of_getElem? (i := 465) (by decide +kernel)), .inl rfl⟩ (by decide +kernel) rfl : e_Sn 102 18 (o_getf (e_f1 11 2) 21)) t_102_21
noncomputable def n_102_17 : e_Y := u_ld f_okA f_l0 n_102_18
theorem t_102_17 : e_Sn 102 17 (e_un n_102_17) := u_ldAT f_l0_eq (s_aload (i := .aload_n 0) (len := 1) hq_102 (by decide +kernel) rfl (.inr ⟨0, rfl, rfl, rfl⟩) : e_Sn 102 17 (o_load e_okR 0 18)) t_102_18
noncomputable def n_102_14 : e_Y := u_callV 4 71 3 22 2 n_71_0 n_102_17
theorem t_102_14 : e_Sn 102 14 (e_un n_102_14) := u_callVT rfl (s_callV (ci := 4) (C := er_4) (T := et_4) (N := 5) (index := 68) hq_102 ho_102 hy_71 hp_71 hc_71 hi_71 hd_71 (List.mem_of_getElem? (i := 420) (by decide +kernel)) hs_71 (List.mem_of_getElem? (i := 422) (by decide +kernel)) rfl (by decide +kernel) rfl : e_Sn 102 14 (o_callV (e_s1 4 71 3) 2 17)) t_71_0 t_102_17
noncomputable def n_102_12 : e_Y := u_push (.inl 2147483658) n_102_14
theorem t_102_12 : e_Sn 102 12 (e_un n_102_12) := u_pushT (s_bipush (n := (10)) hq_102 (by decide +kernel) rfl ⟨by decide +kernel, by decide +kernel⟩ : e_Sn 102 12 (o_push (.inl 2147483658) 14)) t_102_14
noncomputable def n_102_9 : e_Y := u_getf 11 1 (u_old (o_getf (e_f1 11 1) 12) n_102_12) n_102_12
theorem t_102_9 : e_Sn 102 9 (e_un n_102_9) := u_getfT (s_getf (C := er_11) (T := et_11) (N := 15) (ref := "Plateroomprinter$World") (index := 20) (ci := 11) (k := 1) hq_102 ho_102 ⟨rfl, by decide, ei_11, (List.mem_of_getElem? (i := 462) (by decide +kernel)), .inl rfl⟩ (by decide +kernel) rfl : e_Sn 102 9 (o_getf (e_f1 11 1) 12)) t_102_12
noncomputable def n_102_8 : e_Y := u_ld f_okA f_l0 n_102_9
theorem t_102_8 : e_Sn 102 8 (e_un n_102_8) := u_ldAT f_l0_eq (s_aload (i := .aload_n 0) (len := 1) hq_102 (by decide +kernel) rfl (.inr ⟨0, rfl, rfl, rfl⟩) : e_Sn 102 8 (o_load e_okR 0 9)) t_102_9
noncomputable def n_102_5 : e_Y := u_callV 4 71 3 22 2 n_71_0 n_102_8
theorem t_102_5 : e_Sn 102 5 (e_un n_102_5) := u_callVT rfl (s_callV (ci := 4) (C := er_4) (T := et_4) (N := 5) (index := 68) hq_102 ho_102 hy_71 hp_71 hc_71 hi_71 hd_71 (List.mem_of_getElem? (i := 420) (by decide +kernel)) hs_71 (List.mem_of_getElem? (i := 422) (by decide +kernel)) rfl (by decide +kernel) rfl : e_Sn 102 5 (o_callV (e_s1 4 71 3) 2 8)) t_71_0 t_102_8
noncomputable def n_102_4 : e_Y := u_push (.inl 2147483648) n_102_5
theorem t_102_4 : e_Sn 102 4 (e_un n_102_4) := u_pushT (s_iconst (n := (0)) hq_102 (by decide +kernel) rfl ⟨by decide +kernel, by decide +kernel⟩ : e_Sn 102 4 (o_push (.inl 2147483648) 5)) t_102_5
noncomputable def n_102_1 : e_Y := u_getf 11 0 (u_old (o_getf (e_f1 11 0) 4) n_102_4) n_102_4
theorem t_102_1 : e_Sn 102 1 (e_un n_102_1) := u_getfT (s_getf (C := er_11) (T := et_11) (N := 15) (ref := "Plateroomprinter$World") (index := 14) (ci := 11) (k := 0) hq_102 ho_102 ⟨rfl, by decide, ei_11, (List.mem_of_getElem? (i := 459) (by decide +kernel)), .inl rfl⟩ (by decide +kernel) rfl : e_Sn 102 1 (o_getf (e_f1 11 0) 4)) t_102_4
noncomputable def n_102_0 : e_Y := u_ld f_okA f_l0 n_102_1
theorem t_102_0 : e_Sn 102 0 (e_un n_102_0) := u_ldAT f_l0_eq (s_aload (i := .aload_n 0) (len := 1) hq_102 (by decide +kernel) rfl (.inr ⟨0, rfl, rfl, rfl⟩) : e_Sn 102 0 (o_load e_okR 0 1)) t_102_1
noncomputable def e_tb_102 : e_X := (e_br 31 (e_lf 0 (e_un n_102_0)) (e_br 87 (e_lf 31 (e_un n_102_31)) (e_lf 87 (e_un n_102_87))))
theorem e_tk_102 : e_Tb 102 e_tb_102 := (e_brT (e_lfT t_102_0) (e_brT (e_lfT t_102_31) (e_lfT t_102_87)))
theorem hq_101 : (e_ml[101]?).map (·.2.1) = some prog_12_method_1_code := rfl
theorem ho_101 : (e_ml[101]?).map (·.1.cls) = some "Plateroomprinter$World" := rfl
theorem hr_101 : (e_ml[101]?).map (·.2.2.2) = some none := rfl
noncomputable def n_101_163 : e_Y := u_tab (o_retv)
theorem t_101_163 : e_Sn 101 163 (e_un n_101_163) := u_tabT (s_vret hq_101 hr_101 (by decide +kernel) : e_Sn 101 163 (o_retv))
noncomputable def n_101_160 : e_Y := u_callV 11 102 2 21 1 n_102_0 n_101_163
theorem t_101_160 : e_Sn 101 160 (e_un n_101_160) := u_callVT rfl (s_callV (ci := 11) (C := er_11) (T := et_11) (N := 15) (index := 65) hq_101 ho_101 hy_102 hp_102 hc_102 hi_102 hd_102 (List.mem_of_getElem? (i := 416) (by decide +kernel)) hs_102 (List.mem_of_getElem? (i := 418) (by decide +kernel)) rfl (by decide +kernel) rfl : e_Sn 101 160 (o_callV (e_s1 11 102 2) 1 163)) t_102_0 t_101_163
noncomputable def n_101_159 : e_Y := u_ld f_okA f_l0 n_101_160
theorem t_101_159 : e_Sn 101 159 (e_un n_101_159) := u_ldAT f_l0_eq (s_aload (i := .aload_n 0) (len := 1) hq_101 (by decide +kernel) rfl (.inr ⟨0, rfl, rfl, rfl⟩) : e_Sn 101 159 (o_load e_okR 0 160)) t_101_160
noncomputable def n_101_156 : e_Y := (u_at 135)
theorem t_101_156 : e_Sn 101 156 (e_un n_101_156) := u_gotoT (s_goto (off := (-21)) hq_101 (by decide +kernel) rfl : e_Sn 101 156 (o_goto 135)) u_atT
noncomputable def n_101_153 : e_Y := u_inc f_l1 f_s1 1 n_101_156
theorem t_101_153 : e_Sn 101 153 (e_un n_101_153) := u_incT f_l1_eq (fun _ _ _ => f_s1_eq) (s_iinc (zz := (1)) hq_101 (by decide +kernel) rfl (by decide +kernel) ⟨by decide, by decide⟩ : e_Sn 101 153 (o_iinc 1 1 156)) t_101_156
noncomputable def n_101_152 : e_Y := u_old (o_astR 4 (fun k => Nat.beq k 7) 153) n_101_153
theorem t_101_152 : e_Sn 101 152 (e_un n_101_152) := u_oldT (s_aast (tc := 1) (E := "Plateroomprinter$Path") hq_101 rfl (by decide) (fun k hk => by obtain rfl := Nat.eq_of_beq_eq_true hk; exact ⟨er_7, rfl, .inl ⟨rfl, by decide⟩⟩) (by decide +kernel) rfl : e_Sn 101 152 (o_astR 4 (fun k => Nat.beq k 7) 153)) t_101_153 (e_cg_astR 4 (fun k => Nat.beq k 7))
noncomputable def n_101_149 : e_Y := u_tab (o_callI 82 1 1 152)
theorem t_101_149 : e_Sn 101 149 (e_un n_101_149) := u_tabT (s_callIN (host := "Plateroomprinter") (index := 64) hq_101 ho_101 hy_82 hp_82 hc_82 hi_82 hd_82 (List.mem_of_getElem? (i := 415) (by decide +kernel)) rfl rfl hs_82 (by decide +kernel) rfl : e_Sn 101 149 (o_callI 82 1 1 152))
noncomputable def n_101_148 : e_Y := u_old (o_dup 149) n_101_149
theorem t_101_148 : e_Sn 101 148 (e_un n_101_148) := u_oldT (s_dup hq_101 (by decide +kernel) rfl : e_Sn 101 148 (o_dup 149)) t_101_149 e_cg_dup
noncomputable def n_101_145 : e_Y := u_tab (o_new 7 6 ef_7 148)
theorem t_101_145 : e_Sn 101 145 (e_un n_101_145) := u_tabT (s_new (index := 34) (ci := 7) (N := 6) (C := er_7) (T := et_7) (ty0 := ey_7) (fv := eg_7) hq_101 ho_101 rfl ei_7 eo_7 (List.mem_of_getElem? (i := 373) (by decide +kernel)) (List.mem_of_getElem? (i := 281) (by decide +kernel)) (List.mem_of_getElem? (i := 145) (by decide +kernel)) eh_7 rfl (e_newrel ek_7) (by decide +kernel) rfl : e_Sn 101 145 (o_new 7 6 ef_7 148))
noncomputable def n_101_144 : e_Y := u_ld f_okI f_l1 n_101_145
theorem t_101_144 : e_Sn 101 144 (e_un n_101_144) := u_ldIT f_l1_eq (s_iload (i := .iload_n 1) (len := 1) hq_101 (by decide +kernel) rfl (.inr ⟨1, rfl, rfl, rfl⟩) : e_Sn 101 144 (o_load e_okI 1 145)) t_101_145
noncomputable def n_101_141 : e_Y := u_getf 11 5 (u_old (o_getf (e_f1 11 5) 144) n_101_144) n_101_144
theorem t_101_141 : e_Sn 101 141 (e_un n_101_141) := u_getfT (s_getf (C := er_11) (T := et_11) (N := 15) (ref := "Plateroomprinter$World") (index := 36) (ci := 11) (k := 5) hq_101 ho_101 ⟨rfl, by decide, ei_11, (List.mem_of_getElem? (i := 473) (by decide +kernel)), .inl rfl⟩ (by decide +kernel) rfl : e_Sn 101 141 (o_getf (e_f1 11 5) 144)) t_101_144
noncomputable def n_101_140 : e_Y := u_ld f_okA f_l0 n_101_141
theorem t_101_140 : e_Sn 101 140 (e_un n_101_140) := u_ldAT f_l0_eq (s_aload (i := .aload_n 0) (len := 1) hq_101 (by decide +kernel) rfl (.inr ⟨0, rfl, rfl, rfl⟩) : e_Sn 101 140 (o_load e_okR 0 141)) t_101_141
noncomputable def n_101_137 : e_Y := u_jmp y_ge (u_old2 (o_clt 140 159) 140 n_101_140 n_101_159) n_101_140 n_101_159
theorem t_101_137 : e_Sn 101 137 (e_un n_101_137) := u_cltT rfl (s_cge (off := (22)) hq_101 (by decide +kernel) rfl rfl : e_Sn 101 137 (o_clt 140 159)) t_101_140 t_101_159
noncomputable def n_101_136 : e_Y := u_push (.inl 2147483653) n_101_137
theorem t_101_136 : e_Sn 101 136 (e_un n_101_136) := u_pushT (s_iconst (n := (5)) hq_101 (by decide +kernel) rfl ⟨by decide +kernel, by decide +kernel⟩ : e_Sn 101 136 (o_push (.inl 2147483653) 137)) t_101_137
noncomputable def n_101_135 : e_Y := u_ld f_okI f_l1 n_101_136
theorem t_101_135 : e_Sn 101 135 (e_un n_101_135) := u_ldIT f_l1_eq (s_iload (i := .iload_n 1) (len := 1) hq_101 (by decide +kernel) rfl (.inr ⟨1, rfl, rfl, rfl⟩) : e_Sn 101 135 (o_load e_okI 1 136)) t_101_136
noncomputable def n_101_134 : e_Y := u_st f_okI f_s1 n_101_135
theorem t_101_134 : e_Sn 101 134 (e_un n_101_134) := u_stIT (fun _ _ _ => f_s1_eq) (s_istore (i := .istore_n 1) (len := 1) hq_101 (by decide +kernel) rfl (.inr ⟨1, rfl, rfl, rfl⟩) : e_Sn 101 134 (o_store e_okI 1 135)) t_101_135
noncomputable def n_101_133 : e_Y := u_push (.inl 2147483648) n_101_134
theorem t_101_133 : e_Sn 101 133 (e_un n_101_133) := u_pushT (s_iconst (n := (0)) hq_101 (by decide +kernel) rfl ⟨by decide +kernel, by decide +kernel⟩ : e_Sn 101 133 (o_push (.inl 2147483648) 134)) t_101_134
noncomputable def n_101_130 : e_Y := (u_at 108)
theorem t_101_130 : e_Sn 101 130 (e_un n_101_130) := u_gotoT (s_goto (off := (-22)) hq_101 (by decide +kernel) rfl : e_Sn 101 130 (o_goto 108)) u_atT
noncomputable def n_101_127 : e_Y := u_inc f_l1 f_s1 1 n_101_130
theorem t_101_127 : e_Sn 101 127 (e_un n_101_127) := u_incT f_l1_eq (fun _ _ _ => f_s1_eq) (s_iinc (zz := (1)) hq_101 (by decide +kernel) rfl (by decide +kernel) ⟨by decide, by decide⟩ : e_Sn 101 127 (o_iinc 1 1 130)) t_101_130
noncomputable def n_101_126 : e_Y := u_old (o_astR 5 (fun k => Nat.beq k 10) 127) n_101_127
theorem t_101_126 : e_Sn 101 126 (e_un n_101_126) := u_oldT (s_aast (tc := 2) (E := "Plateroomprinter$State") hq_101 rfl (by decide) (fun k hk => by obtain rfl := Nat.eq_of_beq_eq_true hk; exact ⟨er_10, rfl, .inl ⟨rfl, by decide⟩⟩) (by decide +kernel) rfl : e_Sn 101 126 (o_astR 5 (fun k => Nat.beq k 10) 127)) t_101_127 (e_cg_astR 5 (fun k => Nat.beq k 10))
noncomputable def n_101_123 : e_Y := u_tab (o_callI 96 1 1 126)
theorem t_101_123 : e_Sn 101 123 (e_un n_101_123) := u_tabT (s_callIN (host := "Plateroomprinter") (index := 25) hq_101 ho_101 hy_96 hp_96 hc_96 hi_96 hd_96 (List.mem_of_getElem? (i := 251) (by decide +kernel)) rfl rfl hs_96 (by decide +kernel) rfl : e_Sn 101 123 (o_callI 96 1 1 126))
noncomputable def n_101_122 : e_Y := u_old (o_dup 123) n_101_123
theorem t_101_122 : e_Sn 101 122 (e_un n_101_122) := u_oldT (s_dup hq_101 (by decide +kernel) rfl : e_Sn 101 122 (o_dup 123)) t_101_123 e_cg_dup
noncomputable def n_101_119 : e_Y := u_tab (o_new 10 11 ef_10 122)
theorem t_101_119 : e_Sn 101 119 (e_un n_101_119) := u_tabT (s_new (index := 23) (ci := 10) (N := 11) (C := er_10) (T := et_10) (ty0 := ey_10) (fv := eg_10) hq_101 ho_101 rfl ei_10 eo_10 (List.mem_of_getElem? (i := 249) (by decide +kernel)) (List.mem_of_getElem? (i := 250) (by decide +kernel)) (List.mem_of_getElem? (i := 143) (by decide +kernel)) eh_10 rfl (e_newrel ek_10) (by decide +kernel) rfl : e_Sn 101 119 (o_new 10 11 ef_10 122))
noncomputable def n_101_118 : e_Y := u_ld f_okI f_l1 n_101_119
theorem t_101_118 : e_Sn 101 118 (e_un n_101_118) := u_ldIT f_l1_eq (s_iload (i := .iload_n 1) (len := 1) hq_101 (by decide +kernel) rfl (.inr ⟨1, rfl, rfl, rfl⟩) : e_Sn 101 118 (o_load e_okI 1 119)) t_101_119
noncomputable def n_101_115 : e_Y := u_getf 11 3 (u_old (o_getf (e_f1 11 3) 118) n_101_118) n_101_118
theorem t_101_115 : e_Sn 101 115 (e_un n_101_115) := u_getfT (s_getf (C := er_11) (T := et_11) (N := 15) (ref := "Plateroomprinter$World") (index := 30) (ci := 11) (k := 3) hq_101 ho_101 ⟨rfl, by decide, ei_11, (List.mem_of_getElem? (i := 468) (by decide +kernel)), .inl rfl⟩ (by decide +kernel) rfl : e_Sn 101 115 (o_getf (e_f1 11 3) 118)) t_101_118
noncomputable def n_101_114 : e_Y := u_ld f_okA f_l0 n_101_115
theorem t_101_114 : e_Sn 101 114 (e_un n_101_114) := u_ldAT f_l0_eq (s_aload (i := .aload_n 0) (len := 1) hq_101 (by decide +kernel) rfl (.inr ⟨0, rfl, rfl, rfl⟩) : e_Sn 101 114 (o_load e_okR 0 115)) t_101_115
noncomputable def n_101_111 : e_Y := u_jmp y_ge (u_old2 (o_clt 114 133) 114 n_101_114 n_101_133) n_101_114 n_101_133
theorem t_101_111 : e_Sn 101 111 (e_un n_101_111) := u_cltT rfl (s_cge (off := (22)) hq_101 (by decide +kernel) rfl rfl : e_Sn 101 111 (o_clt 114 133)) t_101_114 t_101_133
noncomputable def n_101_109 : e_Y := u_push (.inl 2147483656) n_101_111
theorem t_101_109 : e_Sn 101 109 (e_un n_101_109) := u_pushT (s_bipush (n := (8)) hq_101 (by decide +kernel) rfl ⟨by decide +kernel, by decide +kernel⟩ : e_Sn 101 109 (o_push (.inl 2147483656) 111)) t_101_111
noncomputable def n_101_108 : e_Y := u_ld f_okI f_l1 n_101_109
theorem t_101_108 : e_Sn 101 108 (e_un n_101_108) := u_ldIT f_l1_eq (s_iload (i := .iload_n 1) (len := 1) hq_101 (by decide +kernel) rfl (.inr ⟨1, rfl, rfl, rfl⟩) : e_Sn 101 108 (o_load e_okI 1 109)) t_101_109
noncomputable def n_101_107 : e_Y := u_st f_okI f_s1 n_101_108
theorem t_101_107 : e_Sn 101 107 (e_un n_101_107) := u_stIT (fun _ _ _ => f_s1_eq) (s_istore (i := .istore_n 1) (len := 1) hq_101 (by decide +kernel) rfl (.inr ⟨1, rfl, rfl, rfl⟩) : e_Sn 101 107 (o_store e_okI 1 108)) t_101_108
noncomputable def n_101_106 : e_Y := u_push (.inl 2147483648) n_101_107
theorem t_101_106 : e_Sn 101 106 (e_un n_101_106) := u_pushT (s_iconst (n := (0)) hq_101 (by decide +kernel) rfl ⟨by decide +kernel, by decide +kernel⟩ : e_Sn 101 106 (o_push (.inl 2147483648) 107)) t_101_107
noncomputable def n_101_103 : e_Y := u_old (o_putf (e_f1 11 11) e_okR 106) n_101_106
theorem t_101_103 : e_Sn 101 103 (e_un n_101_103) := u_oldT (s_putf (ty0 := ey_11) (ok := e_okR) (C := er_11) (T := et_11) (N := 15) (ref := "Plateroomprinter$World") (index := 61) (ci := 11) (k := 11) hq_101 ho_101 ⟨rfl, by decide, ei_11, (List.mem_of_getElem? (i := 491) (by decide +kernel)), .inl rfl⟩ eo_11 en_11 e_oksA (.inr ⟨rfl, rfl, rfl⟩) (by decide +kernel) rfl : e_Sn 101 103 (o_putf (e_f1 11 11) e_okR 106)) t_101_106 (e_cg_putf (e_f1 11 11) e_okR)
noncomputable def n_101_101 : e_Y := u_tab (o_newa 0 (e_I 2147483648) 103)
theorem t_101_101 : e_Sn 101 101 (e_un n_101_101) := u_tabT (s_newI (List.mem_of_getElem? (i := 215) (by decide +kernel)) hq_101 (by decide +kernel) rfl : e_Sn 101 101 (o_newa 0 (e_I 2147483648) 103))
noncomputable def n_101_99 : e_Y := u_push (.inl 2147483701) n_101_101
theorem t_101_99 : e_Sn 101 99 (e_un n_101_99) := u_pushT (s_bipush (n := (53)) hq_101 (by decide +kernel) rfl ⟨by decide +kernel, by decide +kernel⟩ : e_Sn 101 99 (o_push (.inl 2147483701) 101)) t_101_101
noncomputable def n_101_98 : e_Y := u_ld f_okA f_l0 n_101_99
theorem t_101_98 : e_Sn 101 98 (e_un n_101_98) := u_ldAT f_l0_eq (s_aload (i := .aload_n 0) (len := 1) hq_101 (by decide +kernel) rfl (.inr ⟨0, rfl, rfl, rfl⟩) : e_Sn 101 98 (o_load e_okR 0 99)) t_101_99
noncomputable def n_101_95 : e_Y := u_old (o_putf (e_f1 11 9) e_okR 98) n_101_98
theorem t_101_95 : e_Sn 101 95 (e_un n_101_95) := u_oldT (s_putf (ty0 := ey_11) (ok := e_okR) (C := er_11) (T := et_11) (N := 15) (ref := "Plateroomprinter$World") (index := 57) (ci := 11) (k := 9) hq_101 ho_101 ⟨rfl, by decide, ei_11, (List.mem_of_getElem? (i := 485) (by decide +kernel)), .inl rfl⟩ eo_11 en_11 e_oksR (.inr ⟨rfl, rfl, rfl⟩) (by decide +kernel) rfl : e_Sn 101 95 (o_putf (e_f1 11 9) e_okR 98)) t_101_98 (e_cg_putf (e_f1 11 9) e_okR)
noncomputable def n_101_92 : e_Y := u_tab (o_callI 68 1 1 95)
theorem t_101_92 : e_Sn 101 92 (e_un n_101_92) := u_tabT (s_callIN (host := "Plateroomprinter") (index := 56) hq_101 ho_101 hy_68 hp_68 hc_68 hi_68 hd_68 (List.mem_of_getElem? (i := 388) (by decide +kernel)) rfl rfl hs_68 (by decide +kernel) rfl : e_Sn 101 92 (o_callI 68 1 1 95))
noncomputable def n_101_91 : e_Y := u_old (o_dup 92) n_101_92
theorem t_101_91 : e_Sn 101 91 (e_un n_101_91) := u_oldT (s_dup hq_101 (by decide +kernel) rfl : e_Sn 101 91 (o_dup 92)) t_101_92 e_cg_dup
noncomputable def n_101_88 : e_Y := u_tab (o_new 3 5 ef_3 91)
theorem t_101_88 : e_Sn 101 88 (e_un n_101_88) := u_tabT (s_new (index := 54) (ci := 3) (N := 5) (C := er_3) (T := et_3) (ty0 := ey_3) (fv := eg_3) hq_101 ho_101 rfl ei_3 eo_3 (List.mem_of_getElem? (i := 386) (by decide +kernel)) (List.mem_of_getElem? (i := 387) (by decide +kernel)) (List.mem_of_getElem? (i := 147) (by decide +kernel)) eh_3 rfl (e_newrel ek_3) (by decide +kernel) rfl : e_Sn 101 88 (o_new 3 5 ef_3 91))
noncomputable def n_101_87 : e_Y := u_ld f_okA f_l0 n_101_88
theorem t_101_87 : e_Sn 101 87 (e_un n_101_87) := u_ldAT f_l0_eq (s_aload (i := .aload_n 0) (len := 1) hq_101 (by decide +kernel) rfl (.inr ⟨0, rfl, rfl, rfl⟩) : e_Sn 101 87 (o_load e_okR 0 88)) t_101_88
noncomputable def n_101_84 : e_Y := u_old (o_putf (e_f1 11 8) e_okR 87) n_101_87
theorem t_101_84 : e_Sn 101 84 (e_un n_101_84) := u_oldT (s_putf (ty0 := ey_11) (ok := e_okR) (C := er_11) (T := et_11) (N := 15) (ref := "Plateroomprinter$World") (index := 51) (ci := 11) (k := 8) hq_101 ho_101 ⟨rfl, by decide, ei_11, (List.mem_of_getElem? (i := 482) (by decide +kernel)), .inl rfl⟩ eo_11 en_11 e_oksR (.inr ⟨rfl, rfl, rfl⟩) (by decide +kernel) rfl : e_Sn 101 84 (o_putf (e_f1 11 8) e_okR 87)) t_101_87 (e_cg_putf (e_f1 11 8) e_okR)
noncomputable def n_101_81 : e_Y := u_tab (o_callI 90 1 1 84)
theorem t_101_81 : e_Sn 101 81 (e_un n_101_81) := u_tabT (s_callIN (host := "Plateroomprinter") (index := 46) hq_101 ho_101 hy_90 hp_90 hc_90 hi_90 hd_90 (List.mem_of_getElem? (i := 377) (by decide +kernel)) rfl rfl hs_90 (by decide +kernel) rfl : e_Sn 101 81 (o_callI 90 1 1 84))
noncomputable def n_101_80 : e_Y := u_old (o_dup 81) n_101_81
theorem t_101_80 : e_Sn 101 80 (e_un n_101_80) := u_oldT (s_dup hq_101 (by decide +kernel) rfl : e_Sn 101 80 (o_dup 81)) t_101_81 e_cg_dup
noncomputable def n_101_77 : e_Y := u_tab (o_new 9 1 ef_9 80)
theorem t_101_77 : e_Sn 101 77 (e_un n_101_77) := u_tabT (s_new (index := 44) (ci := 9) (N := 1) (C := er_9) (T := et_9) (ty0 := ey_9) (fv := eg_9) hq_101 ho_101 rfl ei_9 eo_9 (List.mem_of_getElem? (i := 375) (by decide +kernel)) (List.mem_of_getElem? (i := 376) (by decide +kernel)) (List.mem_of_getElem? (i := 146) (by decide +kernel)) eh_9 rfl (e_newrel ek_9) (by decide +kernel) rfl : e_Sn 101 77 (o_new 9 1 ef_9 80))
noncomputable def n_101_76 : e_Y := u_ld f_okA f_l0 n_101_77
theorem t_101_76 : e_Sn 101 76 (e_un n_101_76) := u_ldAT f_l0_eq (s_aload (i := .aload_n 0) (len := 1) hq_101 (by decide +kernel) rfl (.inr ⟨0, rfl, rfl, rfl⟩) : e_Sn 101 76 (o_load e_okR 0 77)) t_101_77
noncomputable def n_101_73 : e_Y := u_old (o_putf (e_f1 11 7) e_okR 76) n_101_76
theorem t_101_73 : e_Sn 101 73 (e_un n_101_73) := u_oldT (s_putf (ty0 := ey_11) (ok := e_okR) (C := er_11) (T := et_11) (N := 15) (ref := "Plateroomprinter$World") (index := 47) (ci := 11) (k := 7) hq_101 ho_101 ⟨rfl, by decide, ei_11, (List.mem_of_getElem? (i := 479) (by decide +kernel)), .inl rfl⟩ eo_11 en_11 e_oksR (.inr ⟨rfl, rfl, rfl⟩) (by decide +kernel) rfl : e_Sn 101 73 (o_putf (e_f1 11 7) e_okR 76)) t_101_76 (e_cg_putf (e_f1 11 7) e_okR)
noncomputable def n_101_70 : e_Y := u_tab (o_callI 90 1 1 73)
theorem t_101_70 : e_Sn 101 70 (e_un n_101_70) := u_tabT (s_callIN (host := "Plateroomprinter") (index := 46) hq_101 ho_101 hy_90 hp_90 hc_90 hi_90 hd_90 (List.mem_of_getElem? (i := 377) (by decide +kernel)) rfl rfl hs_90 (by decide +kernel) rfl : e_Sn 101 70 (o_callI 90 1 1 73))
noncomputable def n_101_69 : e_Y := u_old (o_dup 70) n_101_70
theorem t_101_69 : e_Sn 101 69 (e_un n_101_69) := u_oldT (s_dup hq_101 (by decide +kernel) rfl : e_Sn 101 69 (o_dup 70)) t_101_70 e_cg_dup
noncomputable def n_101_66 : e_Y := u_tab (o_new 9 1 ef_9 69)
theorem t_101_66 : e_Sn 101 66 (e_un n_101_66) := u_tabT (s_new (index := 44) (ci := 9) (N := 1) (C := er_9) (T := et_9) (ty0 := ey_9) (fv := eg_9) hq_101 ho_101 rfl ei_9 eo_9 (List.mem_of_getElem? (i := 375) (by decide +kernel)) (List.mem_of_getElem? (i := 376) (by decide +kernel)) (List.mem_of_getElem? (i := 146) (by decide +kernel)) eh_9 rfl (e_newrel ek_9) (by decide +kernel) rfl : e_Sn 101 66 (o_new 9 1 ef_9 69))
noncomputable def n_101_65 : e_Y := u_ld f_okA f_l0 n_101_66
theorem t_101_65 : e_Sn 101 65 (e_un n_101_65) := u_ldAT f_l0_eq (s_aload (i := .aload_n 0) (len := 1) hq_101 (by decide +kernel) rfl (.inr ⟨0, rfl, rfl, rfl⟩) : e_Sn 101 65 (o_load e_okR 0 66)) t_101_66
noncomputable def n_101_62 : e_Y := u_old (o_putf (e_f1 11 6) e_okR 65) n_101_65
theorem t_101_62 : e_Sn 101 62 (e_un n_101_62) := u_oldT (s_putf (ty0 := ey_11) (ok := e_okR) (C := er_11) (T := et_11) (N := 15) (ref := "Plateroomprinter$World") (index := 40) (ci := 11) (k := 6) hq_101 ho_101 ⟨rfl, by decide, ei_11, (List.mem_of_getElem? (i := 476) (by decide +kernel)), .inl rfl⟩ eo_11 en_11 e_oksA (.inr ⟨rfl, rfl, rfl⟩) (by decide +kernel) rfl : e_Sn 101 62 (o_putf (e_f1 11 6) e_okR 65)) t_101_65 (e_cg_putf (e_f1 11 6) e_okR)
noncomputable def n_101_60 : e_Y := u_tab (o_newa 0 (e_I 2147483648) 62)
theorem t_101_60 : e_Sn 101 60 (e_un n_101_60) := u_tabT (s_newI (List.mem_of_getElem? (i := 215) (by decide +kernel)) hq_101 (by decide +kernel) rfl : e_Sn 101 60 (o_newa 0 (e_I 2147483648) 62))
noncomputable def n_101_59 : e_Y := u_push (.inl 2147483653) n_101_60
theorem t_101_59 : e_Sn 101 59 (e_un n_101_59) := u_pushT (s_iconst (n := (5)) hq_101 (by decide +kernel) rfl ⟨by decide +kernel, by decide +kernel⟩ : e_Sn 101 59 (o_push (.inl 2147483653) 60)) t_101_60
noncomputable def n_101_58 : e_Y := u_ld f_okA f_l0 n_101_59
theorem t_101_58 : e_Sn 101 58 (e_un n_101_58) := u_ldAT f_l0_eq (s_aload (i := .aload_n 0) (len := 1) hq_101 (by decide +kernel) rfl (.inr ⟨0, rfl, rfl, rfl⟩) : e_Sn 101 58 (o_load e_okR 0 59)) t_101_59
noncomputable def n_101_55 : e_Y := u_old (o_putf (e_f1 11 5) e_okR 58) n_101_58
theorem t_101_55 : e_Sn 101 55 (e_un n_101_55) := u_oldT (s_putf (ty0 := ey_11) (ok := e_okR) (C := er_11) (T := et_11) (N := 15) (ref := "Plateroomprinter$World") (index := 36) (ci := 11) (k := 5) hq_101 ho_101 ⟨rfl, by decide, ei_11, (List.mem_of_getElem? (i := 473) (by decide +kernel)), .inl rfl⟩ eo_11 en_11 e_oksA (.inr ⟨rfl, rfl, rfl⟩) (by decide +kernel) rfl : e_Sn 101 55 (o_putf (e_f1 11 5) e_okR 58)) t_101_58 (e_cg_putf (e_f1 11 5) e_okR)
noncomputable def n_101_52 : e_Y := u_tab (o_newa 4 e_N 55)
theorem t_101_52 : e_Sn 101 52 (e_un n_101_52) := u_tabT (s_newR (tc := 1) (index := 34) (E := "Plateroomprinter$Path") rfl ho_101 (List.mem_of_getElem? (i := 373) (by decide +kernel)) (fun s h => h _ (List.mem_filter.mpr ⟨(List.mem_of_getElem? (i := 374) (by decide +kernel)), rfl⟩)) hq_101 (by decide +kernel) rfl : e_Sn 101 52 (o_newa 4 e_N 55))
noncomputable def n_101_51 : e_Y := u_push (.inl 2147483653) n_101_52
theorem t_101_51 : e_Sn 101 51 (e_un n_101_51) := u_pushT (s_iconst (n := (5)) hq_101 (by decide +kernel) rfl ⟨by decide +kernel, by decide +kernel⟩ : e_Sn 101 51 (o_push (.inl 2147483653) 52)) t_101_52
noncomputable def n_101_50 : e_Y := u_ld f_okA f_l0 n_101_51
theorem t_101_50 : e_Sn 101 50 (e_un n_101_50) := u_ldAT f_l0_eq (s_aload (i := .aload_n 0) (len := 1) hq_101 (by decide +kernel) rfl (.inr ⟨0, rfl, rfl, rfl⟩) : e_Sn 101 50 (o_load e_okR 0 51)) t_101_51
noncomputable def n_101_47 : e_Y := u_old (o_putf (e_f1 11 3) e_okR 50) n_101_50
theorem t_101_47 : e_Sn 101 47 (e_un n_101_47) := u_oldT (s_putf (ty0 := ey_11) (ok := e_okR) (C := er_11) (T := et_11) (N := 15) (ref := "Plateroomprinter$World") (index := 30) (ci := 11) (k := 3) hq_101 ho_101 ⟨rfl, by decide, ei_11, (List.mem_of_getElem? (i := 468) (by decide +kernel)), .inl rfl⟩ eo_11 en_11 e_oksA (.inr ⟨rfl, rfl, rfl⟩) (by decide +kernel) rfl : e_Sn 101 47 (o_putf (e_f1 11 3) e_okR 50)) t_101_50 (e_cg_putf (e_f1 11 3) e_okR)
noncomputable def n_101_44 : e_Y := u_tab (o_newa 5 e_N 47)
theorem t_101_44 : e_Sn 101 44 (e_un n_101_44) := u_tabT (s_newR (tc := 2) (index := 23) (E := "Plateroomprinter$State") rfl ho_101 (List.mem_of_getElem? (i := 249) (by decide +kernel)) (fun s h => h _ (List.mem_filter.mpr ⟨(List.mem_of_getElem? (i := 372) (by decide +kernel)), rfl⟩)) hq_101 (by decide +kernel) rfl : e_Sn 101 44 (o_newa 5 e_N 47))
noncomputable def n_101_42 : e_Y := u_push (.inl 2147483656) n_101_44
theorem t_101_42 : e_Sn 101 42 (e_un n_101_42) := u_pushT (s_bipush (n := (8)) hq_101 (by decide +kernel) rfl ⟨by decide +kernel, by decide +kernel⟩ : e_Sn 101 42 (o_push (.inl 2147483656) 44)) t_101_44
noncomputable def n_101_41 : e_Y := u_ld f_okA f_l0 n_101_42
theorem t_101_41 : e_Sn 101 41 (e_un n_101_41) := u_ldAT f_l0_eq (s_aload (i := .aload_n 0) (len := 1) hq_101 (by decide +kernel) rfl (.inr ⟨0, rfl, rfl, rfl⟩) : e_Sn 101 41 (o_load e_okR 0 42)) t_101_42
noncomputable def n_101_38 : e_Y := u_old (o_putf (e_f1 11 2) e_okR 41) n_101_41
theorem t_101_38 : e_Sn 101 38 (e_un n_101_38) := u_oldT (s_putf (ty0 := ey_11) (ok := e_okR) (C := er_11) (T := et_11) (N := 15) (ref := "Plateroomprinter$World") (index := 26) (ci := 11) (k := 2) hq_101 ho_101 ⟨rfl, by decide, ei_11, (List.mem_of_getElem? (i := 465) (by decide +kernel)), .inl rfl⟩ eo_11 en_11 e_oksR (.inr ⟨rfl, rfl, rfl⟩) (by decide +kernel) rfl : e_Sn 101 38 (o_putf (e_f1 11 2) e_okR 41)) t_101_41 (e_cg_putf (e_f1 11 2) e_okR)
noncomputable def n_101_35 : e_Y := u_tab (o_callI 96 1 1 38)
theorem t_101_35 : e_Sn 101 35 (e_un n_101_35) := u_tabT (s_callIN (host := "Plateroomprinter") (index := 25) hq_101 ho_101 hy_96 hp_96 hc_96 hi_96 hd_96 (List.mem_of_getElem? (i := 251) (by decide +kernel)) rfl rfl hs_96 (by decide +kernel) rfl : e_Sn 101 35 (o_callI 96 1 1 38))
noncomputable def n_101_34 : e_Y := u_old (o_dup 35) n_101_35
theorem t_101_34 : e_Sn 101 34 (e_un n_101_34) := u_oldT (s_dup hq_101 (by decide +kernel) rfl : e_Sn 101 34 (o_dup 35)) t_101_35 e_cg_dup
noncomputable def n_101_31 : e_Y := u_tab (o_new 10 11 ef_10 34)
theorem t_101_31 : e_Sn 101 31 (e_un n_101_31) := u_tabT (s_new (index := 23) (ci := 10) (N := 11) (C := er_10) (T := et_10) (ty0 := ey_10) (fv := eg_10) hq_101 ho_101 rfl ei_10 eo_10 (List.mem_of_getElem? (i := 249) (by decide +kernel)) (List.mem_of_getElem? (i := 250) (by decide +kernel)) (List.mem_of_getElem? (i := 143) (by decide +kernel)) eh_10 rfl (e_newrel ek_10) (by decide +kernel) rfl : e_Sn 101 31 (o_new 10 11 ef_10 34))
noncomputable def n_101_30 : e_Y := u_ld f_okA f_l0 n_101_31
theorem t_101_30 : e_Sn 101 30 (e_un n_101_30) := u_ldAT f_l0_eq (s_aload (i := .aload_n 0) (len := 1) hq_101 (by decide +kernel) rfl (.inr ⟨0, rfl, rfl, rfl⟩) : e_Sn 101 30 (o_load e_okR 0 31)) t_101_31
noncomputable def n_101_27 : e_Y := u_old (o_putf (e_f1 11 1) e_okR 30) n_101_30
theorem t_101_27 : e_Sn 101 27 (e_un n_101_27) := u_oldT (s_putf (ty0 := ey_11) (ok := e_okR) (C := er_11) (T := et_11) (N := 15) (ref := "Plateroomprinter$World") (index := 20) (ci := 11) (k := 1) hq_101 ho_101 ⟨rfl, by decide, ei_11, (List.mem_of_getElem? (i := 462) (by decide +kernel)), .inl rfl⟩ eo_11 en_11 e_oksR (.inr ⟨rfl, rfl, rfl⟩) (by decide +kernel) rfl : e_Sn 101 27 (o_putf (e_f1 11 1) e_okR 30)) t_101_30 (e_cg_putf (e_f1 11 1) e_okR)
noncomputable def n_101_24 : e_Y := u_tab (o_callI 70 2 2 27)
theorem t_101_24 : e_Sn 101 24 (e_un n_101_24) := u_tabT (s_callI (index := 11) hq_101 ho_101 hy_70 hp_70 hc_70 hi_70 hd_70 (List.mem_of_getElem? (i := 224) (by decide +kernel)) rfl rfl hs_70 (by decide +kernel) rfl : e_Sn 101 24 (o_callI 70 2 2 27))
noncomputable def n_101_22 : e_Y := u_push (.inl 2147483658) n_101_24
theorem t_101_22 : e_Sn 101 22 (e_un n_101_22) := u_pushT (s_bipush (n := (10)) hq_101 (by decide +kernel) rfl ⟨by decide +kernel, by decide +kernel⟩ : e_Sn 101 22 (o_push (.inl 2147483658) 24)) t_101_24
noncomputable def n_101_21 : e_Y := u_old (o_dup 22) n_101_22
theorem t_101_21 : e_Sn 101 21 (e_un n_101_21) := u_oldT (s_dup hq_101 (by decide +kernel) rfl : e_Sn 101 21 (o_dup 22)) t_101_22 e_cg_dup
noncomputable def n_101_18 : e_Y := u_tab (o_new 4 5 ef_4 21)
theorem t_101_18 : e_Sn 101 18 (e_un n_101_18) := u_tabT (s_new (index := 9) (ci := 4) (N := 5) (C := er_4) (T := et_4) (ty0 := ey_4) (fv := eg_4) hq_101 ho_101 rfl ei_4 eo_4 (List.mem_of_getElem? (i := 222) (by decide +kernel)) (List.mem_of_getElem? (i := 223) (by decide +kernel)) (List.mem_of_getElem? (i := 141) (by decide +kernel)) eh_4 rfl (e_newrel ek_4) (by decide +kernel) rfl : e_Sn 101 18 (o_new 4 5 ef_4 21))
noncomputable def n_101_17 : e_Y := u_ld f_okA f_l0 n_101_18
theorem t_101_17 : e_Sn 101 17 (e_un n_101_17) := u_ldAT f_l0_eq (s_aload (i := .aload_n 0) (len := 1) hq_101 (by decide +kernel) rfl (.inr ⟨0, rfl, rfl, rfl⟩) : e_Sn 101 17 (o_load e_okR 0 18)) t_101_18
noncomputable def n_101_14 : e_Y := u_old (o_putf (e_f1 11 0) e_okR 17) n_101_17
theorem t_101_14 : e_Sn 101 14 (e_un n_101_14) := u_oldT (s_putf (ty0 := ey_11) (ok := e_okR) (C := er_11) (T := et_11) (N := 15) (ref := "Plateroomprinter$World") (index := 14) (ci := 11) (k := 0) hq_101 ho_101 ⟨rfl, by decide, ei_11, (List.mem_of_getElem? (i := 459) (by decide +kernel)), .inl rfl⟩ eo_11 en_11 e_oksR (.inr ⟨rfl, rfl, rfl⟩) (by decide +kernel) rfl : e_Sn 101 14 (o_putf (e_f1 11 0) e_okR 17)) t_101_17 (e_cg_putf (e_f1 11 0) e_okR)
noncomputable def n_101_11 : e_Y := u_tab (o_callI 70 2 2 14)
theorem t_101_11 : e_Sn 101 11 (e_un n_101_11) := u_tabT (s_callI (index := 11) hq_101 ho_101 hy_70 hp_70 hc_70 hi_70 hd_70 (List.mem_of_getElem? (i := 224) (by decide +kernel)) rfl rfl hs_70 (by decide +kernel) rfl : e_Sn 101 11 (o_callI 70 2 2 14))
noncomputable def n_101_9 : e_Y := u_push (.inl 2147483688) n_101_11
theorem t_101_9 : e_Sn 101 9 (e_un n_101_9) := u_pushT (s_bipush (n := (40)) hq_101 (by decide +kernel) rfl ⟨by decide +kernel, by decide +kernel⟩ : e_Sn 101 9 (o_push (.inl 2147483688) 11)) t_101_11
noncomputable def n_101_8 : e_Y := u_old (o_dup 9) n_101_9
theorem t_101_8 : e_Sn 101 8 (e_un n_101_8) := u_oldT (s_dup hq_101 (by decide +kernel) rfl : e_Sn 101 8 (o_dup 9)) t_101_9 e_cg_dup
noncomputable def n_101_5 : e_Y := u_tab (o_new 4 5 ef_4 8)
theorem t_101_5 : e_Sn 101 5 (e_un n_101_5) := u_tabT (s_new (index := 9) (ci := 4) (N := 5) (C := er_4) (T := et_4) (ty0 := ey_4) (fv := eg_4) hq_101 ho_101 rfl ei_4 eo_4 (List.mem_of_getElem? (i := 222) (by decide +kernel)) (List.mem_of_getElem? (i := 223) (by decide +kernel)) (List.mem_of_getElem? (i := 141) (by decide +kernel)) eh_4 rfl (e_newrel ek_4) (by decide +kernel) rfl : e_Sn 101 5 (o_new 4 5 ef_4 8))
noncomputable def n_101_4 : e_Y := u_ld f_okA f_l0 n_101_5
theorem t_101_4 : e_Sn 101 4 (e_un n_101_4) := u_ldAT f_l0_eq (s_aload (i := .aload_n 0) (len := 1) hq_101 (by decide +kernel) rfl (.inr ⟨0, rfl, rfl, rfl⟩) : e_Sn 101 4 (o_load e_okR 0 5)) t_101_5
noncomputable def n_101_1 : e_Y := u_tab (o_oinit 4)
theorem t_101_1 : e_Sn 101 1 (e_un n_101_1) := u_tabT (s_oinit (idx := 3) hq_101 ho_101 (List.mem_of_getElem? (i := 221) (by decide +kernel)) (List.mem_of_getElem? (i := 190) (by decide +kernel)) (List.mem_of_getElem? (i := 191) (by decide +kernel)) (by decide +kernel) rfl : e_Sn 101 1 (o_oinit 4))
noncomputable def n_101_0 : e_Y := u_ld f_okA f_l0 n_101_1
theorem t_101_0 : e_Sn 101 0 (e_un n_101_0) := u_ldAT f_l0_eq (s_aload (i := .aload_n 0) (len := 1) hq_101 (by decide +kernel) rfl (.inr ⟨0, rfl, rfl, rfl⟩) : e_Sn 101 0 (o_load e_okR 0 1)) t_101_1
noncomputable def e_tb_101 : e_X := (e_br 73 (e_br 34 (e_br 14 (e_br 4 (e_lf 0 (e_un n_101_0)) (e_br 8 (e_lf 4 (e_un n_101_4)) (e_lf 8 (e_un n_101_8)))) (e_br 21 (e_lf 14 (e_un n_101_14)) (e_br 27 (e_lf 21 (e_un n_101_21)) (e_lf 27 (e_un n_101_27))))) (e_br 55 (e_br 38 (e_lf 34 (e_un n_101_34)) (e_br 47 (e_lf 38 (e_un n_101_38)) (e_lf 47 (e_un n_101_47)))) (e_br 62 (e_lf 55 (e_un n_101_55)) (e_br 69 (e_lf 62 (e_un n_101_62)) (e_lf 69 (e_un n_101_69)))))) (e_br 108 (e_br 91 (e_br 80 (e_lf 73 (e_un n_101_73)) (e_br 84 (e_lf 80 (e_un n_101_80)) (e_lf 84 (e_un n_101_84)))) (e_br 95 (e_lf 91 (e_un n_101_91)) (e_br 103 (e_lf 95 (e_un n_101_95)) (e_lf 103 (e_un n_101_103))))) (e_br 135 (e_br 122 (e_lf 108 (e_un n_101_108)) (e_br 126 (e_lf 122 (e_un n_101_122)) (e_lf 126 (e_un n_101_126)))) (e_br 148 (e_lf 135 (e_un n_101_135)) (e_br 152 (e_lf 148 (e_un n_101_148)) (e_lf 152 (e_un n_101_152)))))))
theorem e_tk_101 : e_Tb 101 e_tb_101 := (e_brT (e_brT (e_brT (e_brT (e_lfT t_101_0) (e_brT (e_lfT t_101_4) (e_lfT t_101_8))) (e_brT (e_lfT t_101_14) (e_brT (e_lfT t_101_21) (e_lfT t_101_27)))) (e_brT (e_brT (e_lfT t_101_34) (e_brT (e_lfT t_101_38) (e_lfT t_101_47))) (e_brT (e_lfT t_101_55) (e_brT (e_lfT t_101_62) (e_lfT t_101_69))))) (e_brT (e_brT (e_brT (e_lfT t_101_73) (e_brT (e_lfT t_101_80) (e_lfT t_101_84))) (e_brT (e_lfT t_101_91) (e_brT (e_lfT t_101_95) (e_lfT t_101_103)))) (e_brT (e_brT (e_lfT t_101_108) (e_brT (e_lfT t_101_122) (e_lfT t_101_126))) (e_brT (e_lfT t_101_135) (e_brT (e_lfT t_101_148) (e_lfT t_101_152))))))
theorem hq_0 : (e_ml[0]?).map (·.2.1) = some prog_1_method_1_code := rfl
theorem ho_0 : (e_ml[0]?).map (·.1.cls) = some "Plateroomprinter" := rfl
theorem hr_0 : (e_ml[0]?).map (·.2.2.2) = some none := rfl
noncomputable def n_0_166 : e_Y := u_tab (o_retv)
theorem t_0_166 : e_Sn 0 166 (e_un n_0_166) := u_tabT (s_vret hq_0 hr_0 (by decide +kernel) : e_Sn 0 166 (o_retv))
noncomputable def n_0_163 : e_Y := u_old (o_putf (e_f1 0 16) e_okI 166) n_0_166
theorem t_0_163 : e_Sn 0 163 (e_un n_0_163) := u_oldT (s_putf (ty0 := ey_0) (ok := e_okI) (C := er_0) (T := et_0) (N := 17) (ref := "Plateroomprinter") (index := 87) (ci := 0) (k := 16) hq_0 ho_0 ⟨rfl, by decide, ei_0, (List.mem_of_getElem? (i := 696) (by decide +kernel)), .inl rfl⟩ eo_0 en_0 e_oksI (.inl rfl) (by decide +kernel) rfl : e_Sn 0 163 (o_putf (e_f1 0 16) e_okI 166)) t_0_166 (e_cg_putf (e_f1 0 16) e_okI)
noncomputable def n_0_162 : e_Y := u_push (.inl 2147483647) n_0_163
theorem t_0_162 : e_Sn 0 162 (e_un n_0_162) := u_pushT (s_iconst (n := (-1)) hq_0 (by decide +kernel) rfl ⟨by decide +kernel, by decide +kernel⟩ : e_Sn 0 162 (o_push (.inl 2147483647) 163)) t_0_163
noncomputable def n_0_161 : e_Y := u_ld f_okA f_l0 n_0_162
theorem t_0_161 : e_Sn 0 161 (e_un n_0_161) := u_ldAT f_l0_eq (s_aload (i := .aload_n 0) (len := 1) hq_0 (by decide +kernel) rfl (.inr ⟨0, rfl, rfl, rfl⟩) : e_Sn 0 161 (o_load e_okR 0 162)) t_0_162
noncomputable def n_0_158 : e_Y := u_old (o_putf (e_f1 0 15) e_okI 161) n_0_161
theorem t_0_158 : e_Sn 0 158 (e_un n_0_158) := u_oldT (s_putf (ty0 := ey_0) (ok := e_okI) (C := er_0) (T := et_0) (N := 17) (ref := "Plateroomprinter") (index := 84) (ci := 0) (k := 15) hq_0 ho_0 ⟨rfl, by decide, ei_0, (List.mem_of_getElem? (i := 695) (by decide +kernel)), .inl rfl⟩ eo_0 en_0 e_oksI (.inl rfl) (by decide +kernel) rfl : e_Sn 0 158 (o_putf (e_f1 0 15) e_okI 161)) t_0_161 (e_cg_putf (e_f1 0 15) e_okI)
noncomputable def n_0_157 : e_Y := u_push (.inl 2147483647) n_0_158
theorem t_0_157 : e_Sn 0 157 (e_un n_0_157) := u_pushT (s_iconst (n := (-1)) hq_0 (by decide +kernel) rfl ⟨by decide +kernel, by decide +kernel⟩ : e_Sn 0 157 (o_push (.inl 2147483647) 158)) t_0_158
noncomputable def n_0_156 : e_Y := u_ld f_okA f_l0 n_0_157
theorem t_0_156 : e_Sn 0 156 (e_un n_0_156) := u_ldAT f_l0_eq (s_aload (i := .aload_n 0) (len := 1) hq_0 (by decide +kernel) rfl (.inr ⟨0, rfl, rfl, rfl⟩) : e_Sn 0 156 (o_load e_okR 0 157)) t_0_157
noncomputable def n_0_153 : e_Y := u_old (o_putf (e_f1 0 14) e_okI 156) n_0_156
theorem t_0_153 : e_Sn 0 153 (e_un n_0_153) := u_oldT (s_putf (ty0 := ey_0) (ok := e_okI) (C := er_0) (T := et_0) (N := 17) (ref := "Plateroomprinter") (index := 81) (ci := 0) (k := 14) hq_0 ho_0 ⟨rfl, by decide, ei_0, (List.mem_of_getElem? (i := 694) (by decide +kernel)), .inl rfl⟩ eo_0 en_0 e_oksI (.inl rfl) (by decide +kernel) rfl : e_Sn 0 153 (o_putf (e_f1 0 14) e_okI 156)) t_0_156 (e_cg_putf (e_f1 0 14) e_okI)
noncomputable def n_0_152 : e_Y := u_push (.inl 2147483648) n_0_153
theorem t_0_152 : e_Sn 0 152 (e_un n_0_152) := u_pushT (s_iconst (n := (0)) hq_0 (by decide +kernel) rfl ⟨by decide +kernel, by decide +kernel⟩ : e_Sn 0 152 (o_push (.inl 2147483648) 153)) t_0_153
noncomputable def n_0_151 : e_Y := u_ld f_okA f_l0 n_0_152
theorem t_0_151 : e_Sn 0 151 (e_un n_0_151) := u_ldAT f_l0_eq (s_aload (i := .aload_n 0) (len := 1) hq_0 (by decide +kernel) rfl (.inr ⟨0, rfl, rfl, rfl⟩) : e_Sn 0 151 (o_load e_okR 0 152)) t_0_152
noncomputable def n_0_148 : e_Y := u_old (o_putf (e_f1 0 13) e_okI 151) n_0_151
theorem t_0_148 : e_Sn 0 148 (e_un n_0_148) := u_oldT (s_putf (ty0 := ey_0) (ok := e_okI) (C := er_0) (T := et_0) (N := 17) (ref := "Plateroomprinter") (index := 77) (ci := 0) (k := 13) hq_0 ho_0 ⟨rfl, by decide, ei_0, (List.mem_of_getElem? (i := 693) (by decide +kernel)), .inl rfl⟩ eo_0 en_0 e_oksI (.inl rfl) (by decide +kernel) rfl : e_Sn 0 148 (o_putf (e_f1 0 13) e_okI 151)) t_0_151 (e_cg_putf (e_f1 0 13) e_okI)
noncomputable def n_0_147 : e_Y := u_push (.inl 2147483648) n_0_148
theorem t_0_147 : e_Sn 0 147 (e_un n_0_147) := u_pushT (s_iconst (n := (0)) hq_0 (by decide +kernel) rfl ⟨by decide +kernel, by decide +kernel⟩ : e_Sn 0 147 (o_push (.inl 2147483648) 148)) t_0_148
noncomputable def n_0_146 : e_Y := u_ld f_okA f_l0 n_0_147
theorem t_0_146 : e_Sn 0 146 (e_un n_0_146) := u_ldAT f_l0_eq (s_aload (i := .aload_n 0) (len := 1) hq_0 (by decide +kernel) rfl (.inr ⟨0, rfl, rfl, rfl⟩) : e_Sn 0 146 (o_load e_okR 0 147)) t_0_147
noncomputable def n_0_143 : e_Y := u_old (o_putf (e_f1 0 12) e_okR 146) n_0_146
theorem t_0_143 : e_Sn 0 143 (e_un n_0_143) := u_oldT (s_putf (ty0 := ey_0) (ok := e_okR) (C := er_0) (T := et_0) (N := 17) (ref := "Plateroomprinter") (index := 74) (ci := 0) (k := 12) hq_0 ho_0 ⟨rfl, by decide, ei_0, (List.mem_of_getElem? (i := 692) (by decide +kernel)), .inl rfl⟩ eo_0 en_0 e_oksA (.inr ⟨rfl, rfl, rfl⟩) (by decide +kernel) rfl : e_Sn 0 143 (o_putf (e_f1 0 12) e_okR 146)) t_0_146 (e_cg_putf (e_f1 0 12) e_okR)
noncomputable def n_0_141 : e_Y := u_tab (o_newa 0 (e_I 2147483648) 143)
theorem t_0_141 : e_Sn 0 141 (e_un n_0_141) := u_tabT (s_newI (List.mem_of_getElem? (i := 215) (by decide +kernel)) hq_0 (by decide +kernel) rfl : e_Sn 0 141 (o_newa 0 (e_I 2147483648) 143))
noncomputable def n_0_138 : e_Y := u_push (.inl 2147484704) n_0_141
theorem t_0_138 : e_Sn 0 138 (e_un n_0_138) := u_pushT (s_sipush (n := (1056)) hq_0 (by decide +kernel) rfl ⟨by decide +kernel, by decide +kernel⟩ : e_Sn 0 138 (o_push (.inl 2147484704) 141)) t_0_141
noncomputable def n_0_137 : e_Y := u_ld f_okA f_l0 n_0_138
theorem t_0_137 : e_Sn 0 137 (e_un n_0_137) := u_ldAT f_l0_eq (s_aload (i := .aload_n 0) (len := 1) hq_0 (by decide +kernel) rfl (.inr ⟨0, rfl, rfl, rfl⟩) : e_Sn 0 137 (o_load e_okR 0 138)) t_0_138
noncomputable def n_0_134 : e_Y := u_old (o_putf (e_f1 0 11) e_okR 137) n_0_137
theorem t_0_134 : e_Sn 0 134 (e_un n_0_134) := u_oldT (s_putf (ty0 := ey_0) (ok := e_okR) (C := er_0) (T := et_0) (N := 17) (ref := "Plateroomprinter") (index := 71) (ci := 0) (k := 11) hq_0 ho_0 ⟨rfl, by decide, ei_0, (List.mem_of_getElem? (i := 691) (by decide +kernel)), .inl rfl⟩ eo_0 en_0 e_oksA (.inr ⟨rfl, rfl, rfl⟩) (by decide +kernel) rfl : e_Sn 0 134 (o_putf (e_f1 0 11) e_okR 137)) t_0_137 (e_cg_putf (e_f1 0 11) e_okR)
noncomputable def n_0_132 : e_Y := u_tab (o_newa 0 (e_I 2147483648) 134)
theorem t_0_132 : e_Sn 0 132 (e_un n_0_132) := u_tabT (s_newI (List.mem_of_getElem? (i := 215) (by decide +kernel)) hq_0 (by decide +kernel) rfl : e_Sn 0 132 (o_newa 0 (e_I 2147483648) 134))
noncomputable def n_0_130 : e_Y := u_push (.inl 2147483768) n_0_132
theorem t_0_130 : e_Sn 0 130 (e_un n_0_130) := u_pushT (s_bipush (n := (120)) hq_0 (by decide +kernel) rfl ⟨by decide +kernel, by decide +kernel⟩ : e_Sn 0 130 (o_push (.inl 2147483768) 132)) t_0_132
noncomputable def n_0_129 : e_Y := u_ld f_okA f_l0 n_0_130
theorem t_0_129 : e_Sn 0 129 (e_un n_0_129) := u_ldAT f_l0_eq (s_aload (i := .aload_n 0) (len := 1) hq_0 (by decide +kernel) rfl (.inr ⟨0, rfl, rfl, rfl⟩) : e_Sn 0 129 (o_load e_okR 0 130)) t_0_130
noncomputable def n_0_126 : e_Y := u_old (o_putf (e_f1 0 10) e_okR 129) n_0_129
theorem t_0_126 : e_Sn 0 126 (e_un n_0_126) := u_oldT (s_putf (ty0 := ey_0) (ok := e_okR) (C := er_0) (T := et_0) (N := 17) (ref := "Plateroomprinter") (index := 68) (ci := 0) (k := 10) hq_0 ho_0 ⟨rfl, by decide, ei_0, (List.mem_of_getElem? (i := 690) (by decide +kernel)), .inl rfl⟩ eo_0 en_0 e_oksA (.inr ⟨rfl, rfl, rfl⟩) (by decide +kernel) rfl : e_Sn 0 126 (o_putf (e_f1 0 10) e_okR 129)) t_0_129 (e_cg_putf (e_f1 0 10) e_okR)
noncomputable def n_0_124 : e_Y := u_tab (o_newa 0 (e_I 2147483648) 126)
theorem t_0_124 : e_Sn 0 124 (e_un n_0_124) := u_tabT (s_newI (List.mem_of_getElem? (i := 215) (by decide +kernel)) hq_0 (by decide +kernel) rfl : e_Sn 0 124 (o_newa 0 (e_I 2147483648) 126))
noncomputable def n_0_122 : e_Y := u_push (.inl 2147483768) n_0_124
theorem t_0_122 : e_Sn 0 122 (e_un n_0_122) := u_pushT (s_bipush (n := (120)) hq_0 (by decide +kernel) rfl ⟨by decide +kernel, by decide +kernel⟩ : e_Sn 0 122 (o_push (.inl 2147483768) 124)) t_0_124
noncomputable def n_0_121 : e_Y := u_ld f_okA f_l0 n_0_122
theorem t_0_121 : e_Sn 0 121 (e_un n_0_121) := u_ldAT f_l0_eq (s_aload (i := .aload_n 0) (len := 1) hq_0 (by decide +kernel) rfl (.inr ⟨0, rfl, rfl, rfl⟩) : e_Sn 0 121 (o_load e_okR 0 122)) t_0_122
noncomputable def n_0_118 : e_Y := u_old (o_putf (e_f1 0 9) e_okR 121) n_0_121
theorem t_0_118 : e_Sn 0 118 (e_un n_0_118) := u_oldT (s_putf (ty0 := ey_0) (ok := e_okR) (C := er_0) (T := et_0) (N := 17) (ref := "Plateroomprinter") (index := 65) (ci := 0) (k := 9) hq_0 ho_0 ⟨rfl, by decide, ei_0, (List.mem_of_getElem? (i := 689) (by decide +kernel)), .inl rfl⟩ eo_0 en_0 e_oksA (.inr ⟨rfl, rfl, rfl⟩) (by decide +kernel) rfl : e_Sn 0 118 (o_putf (e_f1 0 9) e_okR 121)) t_0_121 (e_cg_putf (e_f1 0 9) e_okR)
noncomputable def n_0_116 : e_Y := u_tab (o_newa 0 (e_I 2147483648) 118)
theorem t_0_116 : e_Sn 0 116 (e_un n_0_116) := u_tabT (s_newI (List.mem_of_getElem? (i := 215) (by decide +kernel)) hq_0 (by decide +kernel) rfl : e_Sn 0 116 (o_newa 0 (e_I 2147483648) 118))
noncomputable def n_0_114 : e_Y := u_push (.inl 2147483680) n_0_116
theorem t_0_114 : e_Sn 0 114 (e_un n_0_114) := u_pushT (s_bipush (n := (32)) hq_0 (by decide +kernel) rfl ⟨by decide +kernel, by decide +kernel⟩ : e_Sn 0 114 (o_push (.inl 2147483680) 116)) t_0_116
noncomputable def n_0_113 : e_Y := u_ld f_okA f_l0 n_0_114
theorem t_0_113 : e_Sn 0 113 (e_un n_0_113) := u_ldAT f_l0_eq (s_aload (i := .aload_n 0) (len := 1) hq_0 (by decide +kernel) rfl (.inr ⟨0, rfl, rfl, rfl⟩) : e_Sn 0 113 (o_load e_okR 0 114)) t_0_114
noncomputable def n_0_110 : e_Y := u_old (o_putf (e_f1 0 8) e_okR 113) n_0_113
theorem t_0_110 : e_Sn 0 110 (e_un n_0_110) := u_oldT (s_putf (ty0 := ey_0) (ok := e_okR) (C := er_0) (T := et_0) (N := 17) (ref := "Plateroomprinter") (index := 62) (ci := 0) (k := 8) hq_0 ho_0 ⟨rfl, by decide, ei_0, (List.mem_of_getElem? (i := 688) (by decide +kernel)), .inl rfl⟩ eo_0 en_0 e_oksA (.inr ⟨rfl, rfl, rfl⟩) (by decide +kernel) rfl : e_Sn 0 110 (o_putf (e_f1 0 8) e_okR 113)) t_0_113 (e_cg_putf (e_f1 0 8) e_okR)
noncomputable def n_0_108 : e_Y := u_tab (o_newa 0 (e_I 2147483648) 110)
theorem t_0_108 : e_Sn 0 108 (e_un n_0_108) := u_tabT (s_newI (List.mem_of_getElem? (i := 215) (by decide +kernel)) hq_0 (by decide +kernel) rfl : e_Sn 0 108 (o_newa 0 (e_I 2147483648) 110))
noncomputable def n_0_106 : e_Y := u_push (.inl 2147483680) n_0_108
theorem t_0_106 : e_Sn 0 106 (e_un n_0_106) := u_pushT (s_bipush (n := (32)) hq_0 (by decide +kernel) rfl ⟨by decide +kernel, by decide +kernel⟩ : e_Sn 0 106 (o_push (.inl 2147483680) 108)) t_0_108
noncomputable def n_0_105 : e_Y := u_ld f_okA f_l0 n_0_106
theorem t_0_105 : e_Sn 0 105 (e_un n_0_105) := u_ldAT f_l0_eq (s_aload (i := .aload_n 0) (len := 1) hq_0 (by decide +kernel) rfl (.inr ⟨0, rfl, rfl, rfl⟩) : e_Sn 0 105 (o_load e_okR 0 106)) t_0_106
noncomputable def n_0_102 : e_Y := u_old (o_putf (e_f1 0 7) e_okR 105) n_0_105
theorem t_0_102 : e_Sn 0 102 (e_un n_0_102) := u_oldT (s_putf (ty0 := ey_0) (ok := e_okR) (C := er_0) (T := et_0) (N := 17) (ref := "Plateroomprinter") (index := 58) (ci := 0) (k := 7) hq_0 ho_0 ⟨rfl, by decide, ei_0, (List.mem_of_getElem? (i := 687) (by decide +kernel)), .inl rfl⟩ eo_0 en_0 e_oksA (.inr ⟨rfl, rfl, rfl⟩) (by decide +kernel) rfl : e_Sn 0 102 (o_putf (e_f1 0 7) e_okR 105)) t_0_105 (e_cg_putf (e_f1 0 7) e_okR)
noncomputable def n_0_100 : e_Y := u_tab (o_newa 0 (e_I 2147483648) 102)
theorem t_0_100 : e_Sn 0 100 (e_un n_0_100) := u_tabT (s_newI (List.mem_of_getElem? (i := 215) (by decide +kernel)) hq_0 (by decide +kernel) rfl : e_Sn 0 100 (o_newa 0 (e_I 2147483648) 102))
noncomputable def n_0_98 : e_Y := u_push (.inl 2147483680) n_0_100
theorem t_0_98 : e_Sn 0 98 (e_un n_0_98) := u_pushT (s_bipush (n := (32)) hq_0 (by decide +kernel) rfl ⟨by decide +kernel, by decide +kernel⟩ : e_Sn 0 98 (o_push (.inl 2147483680) 100)) t_0_100
noncomputable def n_0_97 : e_Y := u_ld f_okA f_l0 n_0_98
theorem t_0_97 : e_Sn 0 97 (e_un n_0_97) := u_ldAT f_l0_eq (s_aload (i := .aload_n 0) (len := 1) hq_0 (by decide +kernel) rfl (.inr ⟨0, rfl, rfl, rfl⟩) : e_Sn 0 97 (o_load e_okR 0 98)) t_0_98
noncomputable def n_0_94 : e_Y := u_old (o_putf (e_f1 0 6) e_okR 97) n_0_97
theorem t_0_94 : e_Sn 0 94 (e_un n_0_94) := u_oldT (s_putf (ty0 := ey_0) (ok := e_okR) (C := er_0) (T := et_0) (N := 17) (ref := "Plateroomprinter") (index := 54) (ci := 0) (k := 6) hq_0 ho_0 ⟨rfl, by decide, ei_0, (List.mem_of_getElem? (i := 686) (by decide +kernel)), .inl rfl⟩ eo_0 en_0 e_oksR (.inr ⟨rfl, rfl, rfl⟩) (by decide +kernel) rfl : e_Sn 0 94 (o_putf (e_f1 0 6) e_okR 97)) t_0_97 (e_cg_putf (e_f1 0 6) e_okR)
noncomputable def n_0_91 : e_Y := u_tab (o_callI 90 1 1 94)
theorem t_0_91 : e_Sn 0 91 (e_un n_0_91) := u_tabT (s_callIN (host := "Plateroomprinter") (index := 53) hq_0 ho_0 hy_90 hp_90 hc_90 hi_90 hd_90 (List.mem_of_getElem? (i := 679) (by decide +kernel)) rfl rfl hs_90 (by decide +kernel) rfl : e_Sn 0 91 (o_callI 90 1 1 94))
noncomputable def n_0_90 : e_Y := u_old (o_dup 91) n_0_91
theorem t_0_90 : e_Sn 0 90 (e_un n_0_90) := u_oldT (s_dup hq_0 (by decide +kernel) rfl : e_Sn 0 90 (o_dup 91)) t_0_91 e_cg_dup
noncomputable def n_0_87 : e_Y := u_tab (o_new 9 1 ef_9 90)
theorem t_0_87 : e_Sn 0 87 (e_un n_0_87) := u_tabT (s_new (index := 51) (ci := 9) (N := 1) (C := er_9) (T := et_9) (ty0 := ey_9) (fv := eg_9) hq_0 ho_0 rfl ei_9 eo_9 (List.mem_of_getElem? (i := 678) (by decide +kernel)) (List.mem_of_getElem? (i := 376) (by decide +kernel)) (List.mem_of_getElem? (i := 146) (by decide +kernel)) eh_9 rfl (e_newrel ek_9) (by decide +kernel) rfl : e_Sn 0 87 (o_new 9 1 ef_9 90))
noncomputable def n_0_86 : e_Y := u_ld f_okA f_l0 n_0_87
theorem t_0_86 : e_Sn 0 86 (e_un n_0_86) := u_ldAT f_l0_eq (s_aload (i := .aload_n 0) (len := 1) hq_0 (by decide +kernel) rfl (.inr ⟨0, rfl, rfl, rfl⟩) : e_Sn 0 86 (o_load e_okR 0 87)) t_0_87
noncomputable def n_0_83 : e_Y := u_old (o_putf (e_f1 0 5) e_okR 86) n_0_86
theorem t_0_83 : e_Sn 0 83 (e_un n_0_83) := u_oldT (s_putf (ty0 := ey_0) (ok := e_okR) (C := er_0) (T := et_0) (N := 17) (ref := "Plateroomprinter") (index := 47) (ci := 0) (k := 5) hq_0 ho_0 ⟨rfl, by decide, ei_0, (List.mem_of_getElem? (i := 685) (by decide +kernel)), .inl rfl⟩ eo_0 en_0 e_oksR (.inr ⟨rfl, rfl, rfl⟩) (by decide +kernel) rfl : e_Sn 0 83 (o_putf (e_f1 0 5) e_okR 86)) t_0_86 (e_cg_putf (e_f1 0 5) e_okR)
noncomputable def n_0_80 : e_Y := u_tab (o_callI 62 3 3 83)
theorem t_0_80 : e_Sn 0 80 (e_un n_0_80) := u_tabT (s_callI (index := 44) hq_0 ho_0 hy_62 hp_62 hc_62 hi_62 hd_62 (List.mem_of_getElem? (i := 612) (by decide +kernel)) rfl rfl hs_62 (by decide +kernel) rfl : e_Sn 0 80 (o_callI 62 3 3 83))
noncomputable def n_0_77 : e_Y := u_getf 0 0 (u_old (o_getf (e_f1 0 0) 80) n_0_80) n_0_80
theorem t_0_77 : e_Sn 0 77 (e_un n_0_77) := u_getfT (s_getf (C := er_0) (T := et_0) (N := 17) (ref := "Plateroomprinter") (index := 10) (ci := 0) (k := 0) hq_0 ho_0 ⟨rfl, by decide, ei_0, (List.mem_of_getElem? (i := 680) (by decide +kernel)), .inl rfl⟩ (by decide +kernel) rfl : e_Sn 0 77 (o_getf (e_f1 0 0) 80)) t_0_80
noncomputable def n_0_76 : e_Y := u_ld f_okA f_l0 n_0_77
theorem t_0_76 : e_Sn 0 76 (e_un n_0_76) := u_ldAT f_l0_eq (s_aload (i := .aload_n 0) (len := 1) hq_0 (by decide +kernel) rfl (.inr ⟨0, rfl, rfl, rfl⟩) : e_Sn 0 76 (o_load e_okR 0 77)) t_0_77
noncomputable def n_0_73 : e_Y := u_getf 0 1 (u_old (o_getf (e_f1 0 1) 76) n_0_76) n_0_76
theorem t_0_73 : e_Sn 0 73 (e_un n_0_73) := u_getfT (s_getf (C := er_0) (T := et_0) (N := 17) (ref := "Plateroomprinter") (index := 19) (ci := 0) (k := 1) hq_0 ho_0 ⟨rfl, by decide, ei_0, (List.mem_of_getElem? (i := 681) (by decide +kernel)), .inl rfl⟩ (by decide +kernel) rfl : e_Sn 0 73 (o_getf (e_f1 0 1) 76)) t_0_76
noncomputable def n_0_72 : e_Y := u_ld f_okA f_l0 n_0_73
theorem t_0_72 : e_Sn 0 72 (e_un n_0_72) := u_ldAT f_l0_eq (s_aload (i := .aload_n 0) (len := 1) hq_0 (by decide +kernel) rfl (.inr ⟨0, rfl, rfl, rfl⟩) : e_Sn 0 72 (o_load e_okR 0 73)) t_0_73
noncomputable def n_0_71 : e_Y := u_old (o_dup 72) n_0_72
theorem t_0_71 : e_Sn 0 71 (e_un n_0_71) := u_oldT (s_dup hq_0 (by decide +kernel) rfl : e_Sn 0 71 (o_dup 72)) t_0_72 e_cg_dup
noncomputable def n_0_68 : e_Y := u_tab (o_new 2 19 ef_2 71)
theorem t_0_68 : e_Sn 0 68 (e_un n_0_68) := u_tabT (s_new (index := 42) (ci := 2) (N := 19) (C := er_2) (T := et_2) (ty0 := ey_2) (fv := eg_2) hq_0 ho_0 rfl ei_2 eo_2 (List.mem_of_getElem? (i := 610) (by decide +kernel)) (List.mem_of_getElem? (i := 611) (by decide +kernel)) (List.mem_of_getElem? (i := 150) (by decide +kernel)) eh_2 rfl (e_newrel ek_2) (by decide +kernel) rfl : e_Sn 0 68 (o_new 2 19 ef_2 71))
noncomputable def n_0_67 : e_Y := u_ld f_okA f_l0 n_0_68
theorem t_0_67 : e_Sn 0 67 (e_un n_0_67) := u_ldAT f_l0_eq (s_aload (i := .aload_n 0) (len := 1) hq_0 (by decide +kernel) rfl (.inr ⟨0, rfl, rfl, rfl⟩) : e_Sn 0 67 (o_load e_okR 0 68)) t_0_68
noncomputable def n_0_64 : e_Y := u_old (o_putf (e_f1 0 4) e_okR 67) n_0_67
theorem t_0_64 : e_Sn 0 64 (e_un n_0_64) := u_oldT (s_putf (ty0 := ey_0) (ok := e_okR) (C := er_0) (T := et_0) (N := 17) (ref := "Plateroomprinter") (index := 38) (ci := 0) (k := 4) hq_0 ho_0 ⟨rfl, by decide, ei_0, (List.mem_of_getElem? (i := 684) (by decide +kernel)), .inl rfl⟩ eo_0 en_0 e_oksR (.inr ⟨rfl, rfl, rfl⟩) (by decide +kernel) rfl : e_Sn 0 64 (o_putf (e_f1 0 4) e_okR 67)) t_0_67 (e_cg_putf (e_f1 0 4) e_okR)
noncomputable def n_0_61 : e_Y := u_tab (o_callI 80 3 3 64)
theorem t_0_61 : e_Sn 0 61 (e_un n_0_61) := u_tabT (s_callI (index := 35) hq_0 ho_0 hy_80 hp_80 hc_80 hi_80 hd_80 (List.mem_of_getElem? (i := 552) (by decide +kernel)) rfl rfl hs_80 (by decide +kernel) rfl : e_Sn 0 61 (o_callI 80 3 3 64))
noncomputable def n_0_58 : e_Y := u_getf 0 3 (u_old (o_getf (e_f1 0 3) 61) n_0_61) n_0_61
theorem t_0_58 : e_Sn 0 58 (e_un n_0_58) := u_getfT (s_getf (C := er_0) (T := et_0) (N := 17) (ref := "Plateroomprinter") (index := 29) (ci := 0) (k := 3) hq_0 ho_0 ⟨rfl, by decide, ei_0, (List.mem_of_getElem? (i := 683) (by decide +kernel)), .inl rfl⟩ (by decide +kernel) rfl : e_Sn 0 58 (o_getf (e_f1 0 3) 61)) t_0_61
noncomputable def n_0_57 : e_Y := u_ld f_okA f_l0 n_0_58
theorem t_0_57 : e_Sn 0 57 (e_un n_0_57) := u_ldAT f_l0_eq (s_aload (i := .aload_n 0) (len := 1) hq_0 (by decide +kernel) rfl (.inr ⟨0, rfl, rfl, rfl⟩) : e_Sn 0 57 (o_load e_okR 0 58)) t_0_58
noncomputable def n_0_54 : e_Y := u_getf 0 1 (u_old (o_getf (e_f1 0 1) 57) n_0_57) n_0_57
theorem t_0_54 : e_Sn 0 54 (e_un n_0_54) := u_getfT (s_getf (C := er_0) (T := et_0) (N := 17) (ref := "Plateroomprinter") (index := 19) (ci := 0) (k := 1) hq_0 ho_0 ⟨rfl, by decide, ei_0, (List.mem_of_getElem? (i := 681) (by decide +kernel)), .inl rfl⟩ (by decide +kernel) rfl : e_Sn 0 54 (o_getf (e_f1 0 1) 57)) t_0_57
noncomputable def n_0_53 : e_Y := u_ld f_okA f_l0 n_0_54
theorem t_0_53 : e_Sn 0 53 (e_un n_0_53) := u_ldAT f_l0_eq (s_aload (i := .aload_n 0) (len := 1) hq_0 (by decide +kernel) rfl (.inr ⟨0, rfl, rfl, rfl⟩) : e_Sn 0 53 (o_load e_okR 0 54)) t_0_54
noncomputable def n_0_52 : e_Y := u_old (o_dup 53) n_0_53
theorem t_0_52 : e_Sn 0 52 (e_un n_0_52) := u_oldT (s_dup hq_0 (by decide +kernel) rfl : e_Sn 0 52 (o_dup 53)) t_0_53 e_cg_dup
noncomputable def n_0_49 : e_Y := u_tab (o_new 6 17 ef_6 52)
theorem t_0_49 : e_Sn 0 49 (e_un n_0_49) := u_tabT (s_new (index := 33) (ci := 6) (N := 17) (C := er_6) (T := et_6) (ty0 := ey_6) (fv := eg_6) hq_0 ho_0 rfl ei_6 eo_6 (List.mem_of_getElem? (i := 550) (by decide +kernel)) (List.mem_of_getElem? (i := 551) (by decide +kernel)) (List.mem_of_getElem? (i := 149) (by decide +kernel)) eh_6 rfl (e_newrel ek_6) (by decide +kernel) rfl : e_Sn 0 49 (o_new 6 17 ef_6 52))
noncomputable def n_0_48 : e_Y := u_ld f_okA f_l0 n_0_49
theorem t_0_48 : e_Sn 0 48 (e_un n_0_48) := u_ldAT f_l0_eq (s_aload (i := .aload_n 0) (len := 1) hq_0 (by decide +kernel) rfl (.inr ⟨0, rfl, rfl, rfl⟩) : e_Sn 0 48 (o_load e_okR 0 49)) t_0_49
noncomputable def n_0_45 : e_Y := u_old (o_putf (e_f1 0 3) e_okR 48) n_0_48
theorem t_0_45 : e_Sn 0 45 (e_un n_0_45) := u_oldT (s_putf (ty0 := ey_0) (ok := e_okR) (C := er_0) (T := et_0) (N := 17) (ref := "Plateroomprinter") (index := 29) (ci := 0) (k := 3) hq_0 ho_0 ⟨rfl, by decide, ei_0, (List.mem_of_getElem? (i := 683) (by decide +kernel)), .inl rfl⟩ eo_0 en_0 e_oksR (.inr ⟨rfl, rfl, rfl⟩) (by decide +kernel) rfl : e_Sn 0 45 (o_putf (e_f1 0 3) e_okR 48)) t_0_48 (e_cg_putf (e_f1 0 3) e_okR)
noncomputable def n_0_42 : e_Y := u_tab (o_callI 85 1 1 45)
theorem t_0_42 : e_Sn 0 42 (e_un n_0_42) := u_tabT (s_callIN (host := "Plateroomprinter") (index := 28) hq_0 ho_0 hy_85 hp_85 hc_85 hi_85 hd_85 (List.mem_of_getElem? (i := 536) (by decide +kernel)) rfl rfl hs_85 (by decide +kernel) rfl : e_Sn 0 42 (o_callI 85 1 1 45))
noncomputable def n_0_41 : e_Y := u_old (o_dup 42) n_0_42
theorem t_0_41 : e_Sn 0 41 (e_un n_0_41) := u_oldT (s_dup hq_0 (by decide +kernel) rfl : e_Sn 0 41 (o_dup 42)) t_0_42 e_cg_dup
noncomputable def n_0_38 : e_Y := u_tab (o_new 8 3 ef_8 41)
theorem t_0_38 : e_Sn 0 38 (e_un n_0_38) := u_tabT (s_new (index := 26) (ci := 8) (N := 3) (C := er_8) (T := et_8) (ty0 := ey_8) (fv := eg_8) hq_0 ho_0 rfl ei_8 eo_8 (List.mem_of_getElem? (i := 534) (by decide +kernel)) (List.mem_of_getElem? (i := 535) (by decide +kernel)) (List.mem_of_getElem? (i := 148) (by decide +kernel)) eh_8 rfl (e_newrel ek_8) (by decide +kernel) rfl : e_Sn 0 38 (o_new 8 3 ef_8 41))
noncomputable def n_0_37 : e_Y := u_ld f_okA f_l0 n_0_38
theorem t_0_37 : e_Sn 0 37 (e_un n_0_37) := u_ldAT f_l0_eq (s_aload (i := .aload_n 0) (len := 1) hq_0 (by decide +kernel) rfl (.inr ⟨0, rfl, rfl, rfl⟩) : e_Sn 0 37 (o_load e_okR 0 38)) t_0_38
noncomputable def n_0_34 : e_Y := u_old (o_putf (e_f1 0 2) e_okR 37) n_0_37
theorem t_0_34 : e_Sn 0 34 (e_un n_0_34) := u_oldT (s_putf (ty0 := ey_0) (ok := e_okR) (C := er_0) (T := et_0) (N := 17) (ref := "Plateroomprinter") (index := 23) (ci := 0) (k := 2) hq_0 ho_0 ⟨rfl, by decide, ei_0, (List.mem_of_getElem? (i := 682) (by decide +kernel)), .inl rfl⟩ eo_0 en_0 e_oksR (.inr ⟨rfl, rfl, rfl⟩) (by decide +kernel) rfl : e_Sn 0 34 (o_putf (e_f1 0 2) e_okR 37)) t_0_37 (e_cg_putf (e_f1 0 2) e_okR)
noncomputable def n_0_31 : e_Y := u_tab (o_callI 101 2 1 34)
theorem t_0_31 : e_Sn 0 31 (e_un n_0_31) := u_tabT (s_callI (index := 18) hq_0 ho_0 hy_101 hp_101 hc_101 hi_101 hd_101 (List.mem_of_getElem? (i := 218) (by decide +kernel)) rfl rfl hs_101 (by decide +kernel) rfl : e_Sn 0 31 (o_callI 101 2 1 34))
noncomputable def n_0_30 : e_Y := u_old (o_dup 31) n_0_31
theorem t_0_30 : e_Sn 0 30 (e_un n_0_30) := u_oldT (s_dup hq_0 (by decide +kernel) rfl : e_Sn 0 30 (o_dup 31)) t_0_31 e_cg_dup
noncomputable def n_0_27 : e_Y := u_tab (o_new 11 15 ef_11 30)
theorem t_0_27 : e_Sn 0 27 (e_un n_0_27) := u_tabT (s_new (index := 16) (ci := 11) (N := 15) (C := er_11) (T := et_11) (ty0 := ey_11) (fv := eg_11) hq_0 ho_0 rfl ei_11 eo_11 (List.mem_of_getElem? (i := 216) (by decide +kernel)) (List.mem_of_getElem? (i := 217) (by decide +kernel)) (List.mem_of_getElem? (i := 140) (by decide +kernel)) eh_11 rfl (e_newrel ek_11) (by decide +kernel) rfl : e_Sn 0 27 (o_new 11 15 ef_11 30))
noncomputable def n_0_26 : e_Y := u_ld f_okA f_l0 n_0_27
theorem t_0_26 : e_Sn 0 26 (e_un n_0_26) := u_ldAT f_l0_eq (s_aload (i := .aload_n 0) (len := 1) hq_0 (by decide +kernel) rfl (.inr ⟨0, rfl, rfl, rfl⟩) : e_Sn 0 26 (o_load e_okR 0 27)) t_0_27
noncomputable def n_0_23 : e_Y := u_old (o_putf (e_f1 0 1) e_okR 26) n_0_26
theorem t_0_23 : e_Sn 0 23 (e_un n_0_23) := u_oldT (s_putf (ty0 := ey_0) (ok := e_okR) (C := er_0) (T := et_0) (N := 17) (ref := "Plateroomprinter") (index := 19) (ci := 0) (k := 1) hq_0 ho_0 ⟨rfl, by decide, ei_0, (List.mem_of_getElem? (i := 681) (by decide +kernel)), .inl rfl⟩ eo_0 en_0 e_oksR (.inr ⟨rfl, rfl, rfl⟩) (by decide +kernel) rfl : e_Sn 0 23 (o_putf (e_f1 0 1) e_okR 26)) t_0_26 (e_cg_putf (e_f1 0 1) e_okR)
noncomputable def n_0_20 : e_Y := u_tab (o_callI 101 2 1 23)
theorem t_0_20 : e_Sn 0 20 (e_un n_0_20) := u_tabT (s_callI (index := 18) hq_0 ho_0 hy_101 hp_101 hc_101 hi_101 hd_101 (List.mem_of_getElem? (i := 218) (by decide +kernel)) rfl rfl hs_101 (by decide +kernel) rfl : e_Sn 0 20 (o_callI 101 2 1 23))
noncomputable def n_0_19 : e_Y := u_old (o_dup 20) n_0_20
theorem t_0_19 : e_Sn 0 19 (e_un n_0_19) := u_oldT (s_dup hq_0 (by decide +kernel) rfl : e_Sn 0 19 (o_dup 20)) t_0_20 e_cg_dup
noncomputable def n_0_16 : e_Y := u_tab (o_new 11 15 ef_11 19)
theorem t_0_16 : e_Sn 0 16 (e_un n_0_16) := u_tabT (s_new (index := 16) (ci := 11) (N := 15) (C := er_11) (T := et_11) (ty0 := ey_11) (fv := eg_11) hq_0 ho_0 rfl ei_11 eo_11 (List.mem_of_getElem? (i := 216) (by decide +kernel)) (List.mem_of_getElem? (i := 217) (by decide +kernel)) (List.mem_of_getElem? (i := 140) (by decide +kernel)) eh_11 rfl (e_newrel ek_11) (by decide +kernel) rfl : e_Sn 0 16 (o_new 11 15 ef_11 19))
noncomputable def n_0_15 : e_Y := u_ld f_okA f_l0 n_0_16
theorem t_0_15 : e_Sn 0 15 (e_un n_0_15) := u_ldAT f_l0_eq (s_aload (i := .aload_n 0) (len := 1) hq_0 (by decide +kernel) rfl (.inr ⟨0, rfl, rfl, rfl⟩) : e_Sn 0 15 (o_load e_okR 0 16)) t_0_16
noncomputable def n_0_12 : e_Y := u_old (o_putf (e_f1 0 0) e_okR 15) n_0_15
theorem t_0_12 : e_Sn 0 12 (e_un n_0_12) := u_oldT (s_putf (ty0 := ey_0) (ok := e_okR) (C := er_0) (T := et_0) (N := 17) (ref := "Plateroomprinter") (index := 10) (ci := 0) (k := 0) hq_0 ho_0 ⟨rfl, by decide, ei_0, (List.mem_of_getElem? (i := 680) (by decide +kernel)), .inl rfl⟩ eo_0 en_0 e_oksR (.inr ⟨rfl, rfl, rfl⟩) (by decide +kernel) rfl : e_Sn 0 12 (o_putf (e_f1 0 0) e_okR 15)) t_0_15 (e_cg_putf (e_f1 0 0) e_okR)
noncomputable def n_0_9 : e_Y := u_tab (o_callI 59 1 1 12)
theorem t_0_9 : e_Sn 0 9 (e_un n_0_9) := u_tabT (s_callIN (host := "Plateroomprinter") (index := 9) hq_0 ho_0 hy_59 hp_59 hc_59 hi_59 hd_59 (List.mem_of_getElem? (i := 194) (by decide +kernel)) rfl rfl hs_59 (by decide +kernel) rfl : e_Sn 0 9 (o_callI 59 1 1 12))
noncomputable def n_0_8 : e_Y := u_old (o_dup 9) n_0_9
theorem t_0_8 : e_Sn 0 8 (e_un n_0_8) := u_oldT (s_dup hq_0 (by decide +kernel) rfl : e_Sn 0 8 (o_dup 9)) t_0_9 e_cg_dup
noncomputable def n_0_5 : e_Y := u_tab (o_new 1 4 ef_1 8)
theorem t_0_5 : e_Sn 0 5 (e_un n_0_5) := u_tabT (s_new (index := 7) (ci := 1) (N := 4) (C := er_1) (T := et_1) (ty0 := ey_1) (fv := eg_1) hq_0 ho_0 rfl ei_1 eo_1 (List.mem_of_getElem? (i := 192) (by decide +kernel)) (List.mem_of_getElem? (i := 193) (by decide +kernel)) (List.mem_of_getElem? (i := 139) (by decide +kernel)) eh_1 rfl (e_newrel ek_1) (by decide +kernel) rfl : e_Sn 0 5 (o_new 1 4 ef_1 8))
noncomputable def n_0_4 : e_Y := u_ld f_okA f_l0 n_0_5
theorem t_0_4 : e_Sn 0 4 (e_un n_0_4) := u_ldAT f_l0_eq (s_aload (i := .aload_n 0) (len := 1) hq_0 (by decide +kernel) rfl (.inr ⟨0, rfl, rfl, rfl⟩) : e_Sn 0 4 (o_load e_okR 0 5)) t_0_5
noncomputable def n_0_1 : e_Y := u_tab (o_oinit 4)
theorem t_0_1 : e_Sn 0 1 (e_un n_0_1) := u_tabT (s_oinit (idx := 1) hq_0 ho_0 (List.mem_of_getElem? (i := 189) (by decide +kernel)) (List.mem_of_getElem? (i := 190) (by decide +kernel)) (List.mem_of_getElem? (i := 191) (by decide +kernel)) (by decide +kernel) rfl : e_Sn 0 1 (o_oinit 4))
noncomputable def n_0_0 : e_Y := u_ld f_okA f_l0 n_0_1
theorem t_0_0 : e_Sn 0 0 (e_un n_0_0) := u_ldAT f_l0_eq (s_aload (i := .aload_n 0) (len := 1) hq_0 (by decide +kernel) rfl (.inr ⟨0, rfl, rfl, rfl⟩) : e_Sn 0 0 (o_load e_okR 0 1)) t_0_1
noncomputable def e_tb_0 : e_X := (e_br 64 (e_br 23 (e_br 8 (e_br 4 (e_lf 0 (e_un n_0_0)) (e_lf 4 (e_un n_0_4))) (e_br 12 (e_lf 8 (e_un n_0_8)) (e_br 19 (e_lf 12 (e_un n_0_12)) (e_lf 19 (e_un n_0_19))))) (e_br 41 (e_br 30 (e_lf 23 (e_un n_0_23)) (e_br 34 (e_lf 30 (e_un n_0_30)) (e_lf 34 (e_un n_0_34)))) (e_br 45 (e_lf 41 (e_un n_0_41)) (e_br 52 (e_lf 45 (e_un n_0_45)) (e_lf 52 (e_un n_0_52)))))) (e_br 102 (e_br 83 (e_br 71 (e_lf 64 (e_un n_0_64)) (e_lf 71 (e_un n_0_71))) (e_br 90 (e_lf 83 (e_un n_0_83)) (e_br 94 (e_lf 90 (e_un n_0_90)) (e_lf 94 (e_un n_0_94))))) (e_br 126 (e_br 110 (e_lf 102 (e_un n_0_102)) (e_br 118 (e_lf 110 (e_un n_0_110)) (e_lf 118 (e_un n_0_118)))) (e_br 134 (e_lf 126 (e_un n_0_126)) (e_br 143 (e_lf 134 (e_un n_0_134)) (e_lf 143 (e_un n_0_143)))))))
theorem e_tk_0 : e_Tb 0 e_tb_0 := (e_brT (e_brT (e_brT (e_brT (e_lfT t_0_0) (e_lfT t_0_4)) (e_brT (e_lfT t_0_8) (e_brT (e_lfT t_0_12) (e_lfT t_0_19)))) (e_brT (e_brT (e_lfT t_0_23) (e_brT (e_lfT t_0_30) (e_lfT t_0_34))) (e_brT (e_lfT t_0_41) (e_brT (e_lfT t_0_45) (e_lfT t_0_52))))) (e_brT (e_brT (e_brT (e_lfT t_0_64) (e_lfT t_0_71)) (e_brT (e_lfT t_0_83) (e_brT (e_lfT t_0_90) (e_lfT t_0_94)))) (e_brT (e_brT (e_lfT t_0_102) (e_brT (e_lfT t_0_110) (e_lfT t_0_118))) (e_brT (e_lfT t_0_126) (e_brT (e_lfT t_0_134) (e_lfT t_0_143))))))
theorem hq_91 : (e_ml[91]?).map (·.2.1) = some prog_10_method_4_code := rfl
theorem ho_91 : (e_ml[91]?).map (·.1.cls) = some "Plateroomprinter$Sheet" := rfl
theorem hr_91 : (e_ml[91]?).map (·.2.2.2) = some (some .boolean) := rfl
noncomputable def n_91_33 : e_Y := u_tab (o_ret e_okZ)
theorem t_91_33 : e_Sn 91 33 (e_un n_91_33) := u_tabT (s_zret hq_91 hr_91 (by decide +kernel) : e_Sn 91 33 (o_ret e_okZ))
noncomputable def n_91_32 : e_Y := u_push (.inl 2147483649) n_91_33
theorem t_91_32 : e_Sn 91 32 (e_un n_91_32) := u_pushT (s_iconst (n := (1)) hq_91 (by decide +kernel) rfl ⟨by decide +kernel, by decide +kernel⟩ : e_Sn 91 32 (o_push (.inl 2147483649) 33)) t_91_33
noncomputable def n_91_29 : e_Y := (u_at 2)
theorem t_91_29 : e_Sn 91 29 (e_un n_91_29) := u_gotoT (s_goto (off := (-27)) hq_91 (by decide +kernel) rfl : e_Sn 91 29 (o_goto 2)) u_atT
noncomputable def n_91_26 : e_Y := u_inc f_l2 f_s2 1 n_91_29
theorem t_91_26 : e_Sn 91 26 (e_un n_91_26) := u_incT f_l2_eq (fun _ _ _ => f_s2_eq) (s_iinc (zz := (1)) hq_91 (by decide +kernel) rfl (by decide +kernel) ⟨by decide, by decide⟩ : e_Sn 91 26 (o_iinc 2 1 29)) t_91_29
noncomputable def n_91_21 : e_Y := u_jmp y_ne (u_old2 (o_ceq 26 24) 26 n_91_26 (u_at 24)) n_91_26 (u_at 24)
theorem t_91_21 : e_Sn 91 21 (e_un n_91_21) := u_ceqT rfl (s_ceq (off := (5)) hq_91 (by decide +kernel) rfl rfl : e_Sn 91 21 (o_ceq 26 24)) t_91_26 u_atT
noncomputable def n_91_20 : e_Y := u_ald 0 (u_old (o_ald e_fcs 21) n_91_21) n_91_21
theorem t_91_20 : e_Sn 91 20 (e_un n_91_20) := u_aldT (s_iald hq_91 (by decide +kernel) rfl : e_Sn 91 20 (o_ald e_fcs 21)) t_91_21
noncomputable def n_91_19 : e_Y := u_ld f_okI f_l2 n_91_20
theorem t_91_19 : e_Sn 91 19 (e_un n_91_19) := u_ldIT f_l2_eq (s_iload (i := .iload_n 2) (len := 1) hq_91 (by decide +kernel) rfl (.inr ⟨2, rfl, rfl, rfl⟩) : e_Sn 91 19 (o_load e_okI 2 20)) t_91_20
noncomputable def n_91_16 : e_Y := u_getf 9 0 (u_old (o_getf (e_f1 9 0) 19) n_91_19) n_91_19
theorem t_91_16 : e_Sn 91 16 (e_un n_91_16) := u_getfT (s_getf (C := er_9) (T := et_9) (N := 1) (ref := "Plateroomprinter$Sheet") (index := 9) (ci := 9) (k := 0) hq_91 ho_91 ⟨rfl, by decide, ei_9, (List.mem_of_getElem? (i := 381) (by decide +kernel)), .inl rfl⟩ (by decide +kernel) rfl : e_Sn 91 16 (o_getf (e_f1 9 0) 19)) t_91_19
noncomputable def n_91_15 : e_Y := u_ld f_okA f_l1 n_91_16
theorem t_91_15 : e_Sn 91 15 (e_un n_91_15) := u_ldAT f_l1_eq (s_aload (i := .aload_n 1) (len := 1) hq_91 (by decide +kernel) rfl (.inr ⟨1, rfl, rfl, rfl⟩) : e_Sn 91 15 (o_load e_okR 1 16)) t_91_16
noncomputable def n_91_14 : e_Y := u_ald 0 (u_old (o_ald e_fcs 15) n_91_15) n_91_15
theorem t_91_14 : e_Sn 91 14 (e_un n_91_14) := u_aldT (s_iald hq_91 (by decide +kernel) rfl : e_Sn 91 14 (o_ald e_fcs 15)) t_91_15
noncomputable def n_91_13 : e_Y := u_ld f_okI f_l2 n_91_14
theorem t_91_13 : e_Sn 91 13 (e_un n_91_13) := u_ldIT f_l2_eq (s_iload (i := .iload_n 2) (len := 1) hq_91 (by decide +kernel) rfl (.inr ⟨2, rfl, rfl, rfl⟩) : e_Sn 91 13 (o_load e_okI 2 14)) t_91_14
noncomputable def n_91_10 : e_Y := u_getf 9 0 (u_old (o_getf (e_f1 9 0) 13) n_91_13) n_91_13
theorem t_91_10 : e_Sn 91 10 (e_un n_91_10) := u_getfT (s_getf (C := er_9) (T := et_9) (N := 1) (ref := "Plateroomprinter$Sheet") (index := 9) (ci := 9) (k := 0) hq_91 ho_91 ⟨rfl, by decide, ei_9, (List.mem_of_getElem? (i := 381) (by decide +kernel)), .inl rfl⟩ (by decide +kernel) rfl : e_Sn 91 10 (o_getf (e_f1 9 0) 13)) t_91_13
noncomputable def n_91_9 : e_Y := u_ld f_okA f_l0 n_91_10
theorem t_91_9 : e_Sn 91 9 (e_un n_91_9) := u_ldAT f_l0_eq (s_aload (i := .aload_n 0) (len := 1) hq_91 (by decide +kernel) rfl (.inr ⟨0, rfl, rfl, rfl⟩) : e_Sn 91 9 (o_load e_okR 0 10)) t_91_10
noncomputable def n_91_6 : e_Y := u_jmp y_ge (u_old2 (o_clt 9 32) 9 n_91_9 n_91_32) n_91_9 n_91_32
theorem t_91_6 : e_Sn 91 6 (e_un n_91_6) := u_cltT rfl (s_cge (off := (26)) hq_91 (by decide +kernel) rfl rfl : e_Sn 91 6 (o_clt 9 32)) t_91_9 t_91_32
noncomputable def n_91_3 : e_Y := u_push (.inl 2147483776) n_91_6
theorem t_91_3 : e_Sn 91 3 (e_un n_91_3) := u_pushT (s_sipush (n := (128)) hq_91 (by decide +kernel) rfl ⟨by decide +kernel, by decide +kernel⟩ : e_Sn 91 3 (o_push (.inl 2147483776) 6)) t_91_6
noncomputable def n_91_2 : e_Y := u_ld f_okI f_l2 n_91_3
theorem t_91_2 : e_Sn 91 2 (e_un n_91_2) := u_ldIT f_l2_eq (s_iload (i := .iload_n 2) (len := 1) hq_91 (by decide +kernel) rfl (.inr ⟨2, rfl, rfl, rfl⟩) : e_Sn 91 2 (o_load e_okI 2 3)) t_91_3
noncomputable def n_91_1 : e_Y := u_st f_okI f_s2 n_91_2
theorem t_91_1 : e_Sn 91 1 (e_un n_91_1) := u_stIT (fun _ _ _ => f_s2_eq) (s_istore (i := .istore_n 2) (len := 1) hq_91 (by decide +kernel) rfl (.inr ⟨2, rfl, rfl, rfl⟩) : e_Sn 91 1 (o_store e_okI 2 2)) t_91_2
noncomputable def n_91_0 : e_Y := u_push (.inl 2147483648) n_91_1
theorem t_91_0 : e_Sn 91 0 (e_un n_91_0) := u_pushT (s_iconst (n := (0)) hq_91 (by decide +kernel) rfl ⟨by decide +kernel, by decide +kernel⟩ : e_Sn 91 0 (o_push (.inl 2147483648) 1)) t_91_1
noncomputable def e_tb_91 : e_X := (e_br 2 (e_lf 0 (e_un n_91_0)) (e_lf 2 (e_un n_91_2)))
theorem e_tk_91 : e_Tb 91 e_tb_91 := (e_brT (e_lfT t_91_0) (e_lfT t_91_2))
theorem hq_1 : (e_ml[1]?).map (·.2.1) = some prog_1_method_51_code := rfl
theorem ho_1 : (e_ml[1]?).map (·.1.cls) = some "Plateroomprinter" := rfl
theorem hr_1 : (e_ml[1]?).map (·.2.2.2) = some (some .boolean) := rfl
noncomputable def n_1_111 : e_Y := u_tab (o_ret e_okZ)
theorem t_1_111 : e_Sn 1 111 (e_un n_1_111) := u_tabT (s_zret hq_1 hr_1 (by decide +kernel) : e_Sn 1 111 (o_ret e_okZ))
noncomputable def n_1_108 : e_Y := u_callV 9 91 3 22 2 n_91_0 n_1_111
theorem t_1_108 : e_Sn 1 108 (e_un n_1_108) := u_callVT rfl (s_callV (ci := 9) (C := er_9) (T := et_9) (N := 1) (index := 480) hq_1 ho_1 hy_91 hp_91 hc_91 hi_91 hd_91 (List.mem_of_getElem? (i := 1282) (by decide +kernel)) hs_91 (List.mem_of_getElem? (i := 1284) (by decide +kernel)) rfl (by decide +kernel) rfl : e_Sn 1 108 (o_callV (e_s1 9 91 3) 2 111)) t_91_0 t_1_111
noncomputable def n_1_105 : e_Y := u_getf 11 7 (u_old (o_getf (e_f1 11 7) 108) n_1_108) n_1_108
theorem t_1_105 : e_Sn 1 105 (e_un n_1_105) := u_getfT (s_getf (C := er_11) (T := et_11) (N := 15) (ref := "Plateroomprinter$World") (index := 406) (ci := 11) (k := 7) hq_1 ho_1 ⟨rfl, by decide, ei_11, (List.mem_of_getElem? (i := 481) (by decide +kernel)), .inl rfl⟩ (by decide +kernel) rfl : e_Sn 1 105 (o_getf (e_f1 11 7) 108)) t_1_108
noncomputable def n_1_102 : e_Y := u_getf 0 1 (u_old (o_getf (e_f1 0 1) 105) n_1_105) n_1_105
theorem t_1_102 : e_Sn 1 102 (e_un n_1_102) := u_getfT (s_getf (C := er_0) (T := et_0) (N := 17) (ref := "Plateroomprinter") (index := 19) (ci := 0) (k := 1) hq_1 ho_1 ⟨rfl, by decide, ei_0, (List.mem_of_getElem? (i := 681) (by decide +kernel)), .inl rfl⟩ (by decide +kernel) rfl : e_Sn 1 102 (o_getf (e_f1 0 1) 105)) t_1_105
noncomputable def n_1_101 : e_Y := u_ld f_okA f_l0 n_1_102
theorem t_1_101 : e_Sn 1 101 (e_un n_1_101) := u_ldAT f_l0_eq (s_aload (i := .aload_n 0) (len := 1) hq_1 (by decide +kernel) rfl (.inr ⟨0, rfl, rfl, rfl⟩) : e_Sn 1 101 (o_load e_okR 0 102)) t_1_102
noncomputable def n_1_98 : e_Y := u_getf 0 6 (u_old (o_getf (e_f1 0 6) 101) n_1_101) n_1_101
theorem t_1_98 : e_Sn 1 98 (e_un n_1_98) := u_getfT (s_getf (C := er_0) (T := et_0) (N := 17) (ref := "Plateroomprinter") (index := 54) (ci := 0) (k := 6) hq_1 ho_1 ⟨rfl, by decide, ei_0, (List.mem_of_getElem? (i := 686) (by decide +kernel)), .inl rfl⟩ (by decide +kernel) rfl : e_Sn 1 98 (o_getf (e_f1 0 6) 101)) t_1_101
noncomputable def n_1_97 : e_Y := u_ld f_okA f_l0 n_1_98
theorem t_1_97 : e_Sn 1 97 (e_un n_1_97) := u_ldAT f_l0_eq (s_aload (i := .aload_n 0) (len := 1) hq_1 (by decide +kernel) rfl (.inr ⟨0, rfl, rfl, rfl⟩) : e_Sn 1 97 (o_load e_okR 0 98)) t_1_98
noncomputable def n_1_94 : e_Y := (u_at 9)
theorem t_1_94 : e_Sn 1 94 (e_un n_1_94) := u_gotoT (s_goto (off := (-85)) hq_1 (by decide +kernel) rfl : e_Sn 1 94 (o_goto 9)) u_atT
noncomputable def n_1_91 : e_Y := u_inc f_l2 f_s2 1 n_1_94
theorem t_1_91 : e_Sn 1 91 (e_un n_1_91) := u_incT f_l2_eq (fun _ _ _ => f_s2_eq) (s_iinc (zz := (1)) hq_1 (by decide +kernel) rfl (by decide +kernel) ⟨by decide, by decide⟩ : e_Sn 1 91 (o_iinc 2 1 94)) t_1_94
noncomputable def n_1_42 : e_Y := u_jmp y_ge (u_old2 (o_clt 45 91) 45 (u_at 45) n_1_91) (u_at 45) n_1_91
theorem t_1_42 : e_Sn 1 42 (e_un n_1_42) := u_cltT rfl (s_cge (off := (49)) hq_1 (by decide +kernel) rfl rfl : e_Sn 1 42 (o_clt 45 91)) u_atT t_1_91
noncomputable def n_1_39 : e_Y := u_getf 3 4 (u_old (o_getf (e_f1 3 4) 42) n_1_42) n_1_42
theorem t_1_39 : e_Sn 1 39 (e_un n_1_39) := u_getfT (s_getf (C := er_3) (T := et_3) (N := 5) (ref := "Plateroomprinter$Figures") (index := 390) (ci := 3) (k := 4) hq_1 ho_1 ⟨rfl, by decide, ei_3, (List.mem_of_getElem? (i := 403) (by decide +kernel)), .inl rfl⟩ (by decide +kernel) rfl : e_Sn 1 39 (o_getf (e_f1 3 4) 42)) t_1_42
noncomputable def n_1_36 : e_Y := u_getf 11 9 (u_old (o_getf (e_f1 11 9) 39) n_1_39) n_1_39
theorem t_1_36 : e_Sn 1 36 (e_un n_1_36) := u_getfT (s_getf (C := er_11) (T := et_11) (N := 15) (ref := "Plateroomprinter$World") (index := 386) (ci := 11) (k := 9) hq_1 ho_1 ⟨rfl, by decide, ei_11, (List.mem_of_getElem? (i := 487) (by decide +kernel)), .inl rfl⟩ (by decide +kernel) rfl : e_Sn 1 36 (o_getf (e_f1 11 9) 39)) t_1_39
noncomputable def n_1_33 : e_Y := u_getf 0 1 (u_old (o_getf (e_f1 0 1) 36) n_1_36) n_1_36
theorem t_1_33 : e_Sn 1 33 (e_un n_1_33) := u_getfT (s_getf (C := er_0) (T := et_0) (N := 17) (ref := "Plateroomprinter") (index := 19) (ci := 0) (k := 1) hq_1 ho_1 ⟨rfl, by decide, ei_0, (List.mem_of_getElem? (i := 681) (by decide +kernel)), .inl rfl⟩ (by decide +kernel) rfl : e_Sn 1 33 (o_getf (e_f1 0 1) 36)) t_1_36
noncomputable def n_1_32 : e_Y := u_ld f_okA f_l0 n_1_33
theorem t_1_32 : e_Sn 1 32 (e_un n_1_32) := u_ldAT f_l0_eq (s_aload (i := .aload_n 0) (len := 1) hq_1 (by decide +kernel) rfl (.inr ⟨0, rfl, rfl, rfl⟩) : e_Sn 1 32 (o_load e_okR 0 33)) t_1_33
noncomputable def n_1_30 : e_Y := u_ld f_okI f_l4 n_1_32
theorem t_1_30 : e_Sn 1 30 (e_un n_1_30) := u_ldIT f_l4_eq (s_iload (i := .iload 4) (len := 2) hq_1 (by decide +kernel) rfl (.inl ⟨rfl, rfl⟩) : e_Sn 1 30 (o_load e_okI 4 32)) t_1_32
noncomputable def n_1_28 : e_Y := u_st f_okI f_s4 n_1_30
theorem t_1_28 : e_Sn 1 28 (e_un n_1_28) := u_stIT (fun _ _ _ => f_s4_eq) (s_istore (i := .istore 4) (len := 2) hq_1 (by decide +kernel) rfl (.inl ⟨rfl, rfl⟩) : e_Sn 1 28 (o_store e_okI 4 30)) t_1_30
noncomputable def n_1_27 : e_Y := u_push (.inl 2147483648) n_1_28
theorem t_1_27 : e_Sn 1 27 (e_un n_1_27) := u_pushT (s_iconst (n := (0)) hq_1 (by decide +kernel) rfl ⟨by decide +kernel, by decide +kernel⟩ : e_Sn 1 27 (o_push (.inl 2147483648) 28)) t_1_28
noncomputable def n_1_26 : e_Y := u_st f_okI f_s3 n_1_27
theorem t_1_26 : e_Sn 1 26 (e_un n_1_26) := u_stIT (fun _ _ _ => f_s3_eq) (s_istore (i := .istore_n 3) (len := 1) hq_1 (by decide +kernel) rfl (.inr ⟨3, rfl, rfl, rfl⟩) : e_Sn 1 26 (o_store e_okI 3 27)) t_1_27
noncomputable def n_1_25 : e_Y := u_bin a_imul (u_old (o_imul 26) n_1_26) n_1_26
theorem t_1_25 : e_Sn 1 25 (e_un n_1_25) := u_imulT (s_imul hq_1 (by decide +kernel) rfl : e_Sn 1 25 (o_imul 26)) t_1_26
noncomputable def n_1_24 : e_Y := u_ld f_okI f_l1 n_1_25
theorem t_1_24 : e_Sn 1 24 (e_un n_1_24) := u_ldIT f_l1_eq (s_iload (i := .iload_n 1) (len := 1) hq_1 (by decide +kernel) rfl (.inr ⟨1, rfl, rfl, rfl⟩) : e_Sn 1 24 (o_load e_okI 1 25)) t_1_25
noncomputable def n_1_23 : e_Y := u_ld f_okI f_l2 n_1_24
theorem t_1_23 : e_Sn 1 23 (e_un n_1_23) := u_ldIT f_l2_eq (s_iload (i := .iload_n 2) (len := 1) hq_1 (by decide +kernel) rfl (.inr ⟨2, rfl, rfl, rfl⟩) : e_Sn 1 23 (o_load e_okI 2 24)) t_1_24
noncomputable def n_1_20 : e_Y := u_jmp y_ge (u_old2 (o_clt 23 97) 23 n_1_23 n_1_97) n_1_23 n_1_97
theorem t_1_20 : e_Sn 1 20 (e_un n_1_20) := u_cltT rfl (s_cge (off := (77)) hq_1 (by decide +kernel) rfl rfl : e_Sn 1 20 (o_clt 23 97)) t_1_23 t_1_97
noncomputable def n_1_18 : e_Y := u_push (.inl 2147483680) n_1_20
theorem t_1_18 : e_Sn 1 18 (e_un n_1_18) := u_pushT (s_bipush (n := (32)) hq_1 (by decide +kernel) rfl ⟨by decide +kernel, by decide +kernel⟩ : e_Sn 1 18 (o_push (.inl 2147483680) 20)) t_1_20
noncomputable def n_1_17 : e_Y := u_ld f_okI f_l2 n_1_18
theorem t_1_17 : e_Sn 1 17 (e_un n_1_17) := u_ldIT f_l2_eq (s_iload (i := .iload_n 2) (len := 1) hq_1 (by decide +kernel) rfl (.inr ⟨2, rfl, rfl, rfl⟩) : e_Sn 1 17 (o_load e_okI 2 18)) t_1_18
noncomputable def n_1_14 : e_Y := u_jmp y_ge (u_old2 (o_clt 17 97) 17 n_1_17 n_1_97) n_1_17 n_1_97
theorem t_1_14 : e_Sn 1 14 (e_un n_1_14) := u_cltT rfl (s_cge (off := (83)) hq_1 (by decide +kernel) rfl rfl : e_Sn 1 14 (o_clt 17 97)) t_1_17 t_1_97
noncomputable def n_1_12 : e_Y := u_push (.inl 2147483680) n_1_14
theorem t_1_12 : e_Sn 1 12 (e_un n_1_12) := u_pushT (s_bipush (n := (32)) hq_1 (by decide +kernel) rfl ⟨by decide +kernel, by decide +kernel⟩ : e_Sn 1 12 (o_push (.inl 2147483680) 14)) t_1_14
noncomputable def n_1_11 : e_Y := u_bin a_imul (u_old (o_imul 12) n_1_12) n_1_12
theorem t_1_11 : e_Sn 1 11 (e_un n_1_11) := u_imulT (s_imul hq_1 (by decide +kernel) rfl : e_Sn 1 11 (o_imul 12)) t_1_12
noncomputable def n_1_10 : e_Y := u_ld f_okI f_l1 n_1_11
theorem t_1_10 : e_Sn 1 10 (e_un n_1_10) := u_ldIT f_l1_eq (s_iload (i := .iload_n 1) (len := 1) hq_1 (by decide +kernel) rfl (.inr ⟨1, rfl, rfl, rfl⟩) : e_Sn 1 10 (o_load e_okI 1 11)) t_1_11
noncomputable def n_1_9 : e_Y := u_ld f_okI f_l2 n_1_10
theorem t_1_9 : e_Sn 1 9 (e_un n_1_9) := u_ldIT f_l2_eq (s_iload (i := .iload_n 2) (len := 1) hq_1 (by decide +kernel) rfl (.inr ⟨2, rfl, rfl, rfl⟩) : e_Sn 1 9 (o_load e_okI 2 10)) t_1_10
noncomputable def n_1_8 : e_Y := u_st f_okI f_s2 n_1_9
theorem t_1_8 : e_Sn 1 8 (e_un n_1_8) := u_stIT (fun _ _ _ => f_s2_eq) (s_istore (i := .istore_n 2) (len := 1) hq_1 (by decide +kernel) rfl (.inr ⟨2, rfl, rfl, rfl⟩) : e_Sn 1 8 (o_store e_okI 2 9)) t_1_9
noncomputable def n_1_7 : e_Y := u_push (.inl 2147483648) n_1_8
theorem t_1_7 : e_Sn 1 7 (e_un n_1_7) := u_pushT (s_iconst (n := (0)) hq_1 (by decide +kernel) rfl ⟨by decide +kernel, by decide +kernel⟩ : e_Sn 1 7 (o_push (.inl 2147483648) 8)) t_1_8
noncomputable def n_1_4 : e_Y := u_callV 9 92 1 20 1 n_92_0 n_1_7
theorem t_1_4 : e_Sn 1 4 (e_un n_1_4) := u_callVT rfl (s_callV (ci := 9) (C := er_9) (T := et_9) (N := 1) (index := 475) hq_1 ho_1 hy_92 hp_92 hc_92 hi_92 hd_92 (List.mem_of_getElem? (i := 1280) (by decide +kernel)) hs_92 (List.mem_of_getElem? (i := 454) (by decide +kernel)) rfl (by decide +kernel) rfl : e_Sn 1 4 (o_callV (e_s1 9 92 1) 1 7)) t_92_0 t_1_7
noncomputable def n_1_1 : e_Y := u_getf 0 6 (u_old (o_getf (e_f1 0 6) 4) n_1_4) n_1_4
theorem t_1_1 : e_Sn 1 1 (e_un n_1_1) := u_getfT (s_getf (C := er_0) (T := et_0) (N := 17) (ref := "Plateroomprinter") (index := 54) (ci := 0) (k := 6) hq_1 ho_1 ⟨rfl, by decide, ei_0, (List.mem_of_getElem? (i := 686) (by decide +kernel)), .inl rfl⟩ (by decide +kernel) rfl : e_Sn 1 1 (o_getf (e_f1 0 6) 4)) t_1_4
noncomputable def n_1_0 : e_Y := u_ld f_okA f_l0 n_1_1
theorem t_1_0 : e_Sn 1 0 (e_un n_1_0) := u_ldAT f_l0_eq (s_aload (i := .aload_n 0) (len := 1) hq_1 (by decide +kernel) rfl (.inr ⟨0, rfl, rfl, rfl⟩) : e_Sn 1 0 (o_load e_okR 0 1)) t_1_1
noncomputable def e_tb_1 : e_X := (e_br 9 (e_lf 0 (e_un n_1_0)) (e_lf 9 (e_un n_1_9)))
theorem e_tk_1 : e_Tb 1 e_tb_1 := (e_brT (e_lfT t_1_0) (e_lfT t_1_9))
theorem hq_2 : (e_ml[2]?).map (·.2.1) = some prog_1_method_44_code := rfl
theorem ho_2 : (e_ml[2]?).map (·.1.cls) = some "Plateroomprinter" := rfl
theorem hr_2 : (e_ml[2]?).map (·.2.2.2) = some (some .boolean) := rfl
noncomputable def n_2_27 : e_Y := u_tab (o_ret e_okZ)
theorem t_2_27 : e_Sn 2 27 (e_un n_2_27) := u_tabT (s_zret hq_2 hr_2 (by decide +kernel) : e_Sn 2 27 (o_ret e_okZ))
noncomputable def n_2_24 : e_Y := u_callV 0 1 5 24 2 n_1_0 n_2_27
theorem t_2_24 : e_Sn 2 24 (e_un n_2_24) := u_callVT rfl (s_callV (ci := 0) (C := er_0) (T := et_0) (N := 17) (index := 419) hq_2 ho_2 hy_1 hp_1 hc_1 hi_1 hd_1 (List.mem_of_getElem? (i := 1276) (by decide +kernel)) hs_1 (List.mem_of_getElem? (i := 53) (by decide +kernel)) rfl (by decide +kernel) rfl : e_Sn 2 24 (o_callV (e_s1 0 1 5) 2 27)) t_1_0 t_2_27
noncomputable def n_2_23 : e_Y := u_ld f_okI f_l1 n_2_24
theorem t_2_23 : e_Sn 2 23 (e_un n_2_23) := u_ldIT f_l1_eq (s_iload (i := .iload_n 1) (len := 1) hq_2 (by decide +kernel) rfl (.inr ⟨1, rfl, rfl, rfl⟩) : e_Sn 2 23 (o_load e_okI 1 24)) t_2_24
noncomputable def n_2_22 : e_Y := u_ld f_okA f_l0 n_2_23
theorem t_2_22 : e_Sn 2 22 (e_un n_2_22) := u_ldAT f_l0_eq (s_aload (i := .aload_n 0) (len := 1) hq_2 (by decide +kernel) rfl (.inr ⟨0, rfl, rfl, rfl⟩) : e_Sn 2 22 (o_load e_okR 0 23)) t_2_23
noncomputable def n_2_11 : e_Y := u_tab (o_throw 0)
theorem t_2_11 : e_Sn 2 11 (e_un n_2_11) := u_tabT (s_throw (ik := 94) (is := 417) (ic := 98) (X := "java/lang/IllegalArgumentException") (text := "height is 1 to 32") hq_2 ho_2 hy_2 hc_2 rfl (by decide +kernel) e_wok0 (by simp [e_sr]) (by decide +kernel) (by decide +kernel) (.inr ⟨(by decide +kernel), (by decide +kernel), (by decide +kernel)⟩) : e_Sn 2 11 (o_throw 0))
noncomputable def n_2_8 : e_Y := u_jmp y_le (u_old2 (o_cgt 11 22) 11 n_2_11 n_2_22) n_2_11 n_2_22
theorem t_2_8 : e_Sn 2 8 (e_un n_2_8) := u_cgtT rfl (s_cle (off := (14)) hq_2 (by decide +kernel) rfl rfl : e_Sn 2 8 (o_cgt 11 22)) t_2_11 t_2_22
noncomputable def n_2_6 : e_Y := u_push (.inl 2147483680) n_2_8
theorem t_2_6 : e_Sn 2 6 (e_un n_2_6) := u_pushT (s_bipush (n := (32)) hq_2 (by decide +kernel) rfl ⟨by decide +kernel, by decide +kernel⟩ : e_Sn 2 6 (o_push (.inl 2147483680) 8)) t_2_8
noncomputable def n_2_5 : e_Y := u_ld f_okI f_l1 n_2_6
theorem t_2_5 : e_Sn 2 5 (e_un n_2_5) := u_ldIT f_l1_eq (s_iload (i := .iload_n 1) (len := 1) hq_2 (by decide +kernel) rfl (.inr ⟨1, rfl, rfl, rfl⟩) : e_Sn 2 5 (o_load e_okI 1 6)) t_2_6
noncomputable def n_2_2 : e_Y := u_jmp y_ge (u_old2 (o_clt 11 5) 11 n_2_11 n_2_5) n_2_11 n_2_5
theorem t_2_2 : e_Sn 2 2 (e_un n_2_2) := u_cltT rfl (s_clt (off := (9)) hq_2 (by decide +kernel) rfl rfl : e_Sn 2 2 (o_clt 11 5)) t_2_11 t_2_5
noncomputable def n_2_1 : e_Y := u_push (.inl 2147483649) n_2_2
theorem t_2_1 : e_Sn 2 1 (e_un n_2_1) := u_pushT (s_iconst (n := (1)) hq_2 (by decide +kernel) rfl ⟨by decide +kernel, by decide +kernel⟩ : e_Sn 2 1 (o_push (.inl 2147483649) 2)) t_2_2
noncomputable def n_2_0 : e_Y := u_ld f_okI f_l1 n_2_1
theorem t_2_0 : e_Sn 2 0 (e_un n_2_0) := u_ldIT f_l1_eq (s_iload (i := .iload_n 1) (len := 1) hq_2 (by decide +kernel) rfl (.inr ⟨1, rfl, rfl, rfl⟩) : e_Sn 2 0 (o_load e_okI 1 1)) t_2_1
noncomputable def e_tb_2 : e_X := (e_lf 0 (e_un n_2_0))
theorem e_tk_2 : e_Tb 2 e_tb_2 := (e_lfT t_2_0)
end SN
