/-! TABLES, by program -/
section SN
theorem hq_7 : (e_ml[7]?).map (·.2.1) = some prog_2_method_1_code := Eq.trans (congrArg (Option.map (fun e => e.2.1)) hy_7) rfl
theorem ho_7 : (e_ml[7]?).map (·.1.cls) = some "Plateroomprinter$Code" := Eq.trans (congrArg (Option.map (fun e => e.1.cls)) hy_7) rfl
theorem hr_7 : (e_ml[7]?).map (·.2.2.2) = some none := Eq.trans (congrArg (Option.map (fun e => e.2.2.2)) hy_7) rfl
noncomputable def n_7_22 : e_Y := u_retV
theorem t_7_22 : e_Sn 7 22 (e_un n_7_22) := u_retVT (s_vret hq_7 hr_7 (by decide +kernel) : e_Sn 7 22 (o_retv))
noncomputable def n_7_19 : e_Y := u_putf 1 1 f_okA (u_old (o_putf (e_f1 1 1) e_okR 22) n_7_22) n_7_22
theorem t_7_19 : e_Sn 7 19 (e_un n_7_19) := u_putfT (fun _ => f_okA_eq) (s_putf (ty0 := ey_1) (ok := e_okR) (C := er_1) (T := et_1) (N := 4) (ref := "Plateroomprinter$Code") (index := 15) (ci := 1) (k := 1) hq_7 ho_7 ⟨rfl, by decide, ei_1, r_m_1_62, .inl rfl⟩ eo_1 en_1 e_oksA (.inr ⟨rfl, rfl, rfl⟩) (by decide +kernel) rfl : e_Sn 7 19 (o_putf (e_f1 1 1) e_okR 22)) t_7_22
noncomputable def n_7_17 : e_Y := u_tab (o_newa 0 (e_I 2147483648) 19)
theorem t_7_17 : e_Sn 7 17 (e_un n_7_17) := u_tabT (s_newI r_m_1_78 hq_7 (by decide +kernel) rfl : e_Sn 7 17 (o_newa 0 (e_I 2147483648) 19))
noncomputable def n_7_14 : e_Y := u_push (.inl 2147485648) n_7_17
theorem t_7_14 : e_Sn 7 14 (e_un n_7_14) := u_pushT (s_sipush (n := (2000)) hq_7 (by decide +kernel) rfl ⟨by decide +kernel, by decide +kernel⟩ : e_Sn 7 14 (o_push (.inl 2147485648) 17)) t_7_17
noncomputable def n_7_13 : e_Y := u_ld f_okA f_l0 n_7_14
theorem t_7_13 : e_Sn 7 13 (e_un n_7_13) := u_ldAT f_l0_eq (s_aload (i := .aload_n 0) (len := 1) hq_7 (by decide +kernel) rfl (.inr ⟨0, rfl, rfl, rfl⟩) : e_Sn 7 13 (o_load e_okR 0 14)) t_7_14
noncomputable def n_7_10 : e_Y := u_putf 1 0 f_okA (u_old (o_putf (e_f1 1 0) e_okR 13) n_7_13) n_7_13
theorem t_7_10 : e_Sn 7 10 (e_un n_7_10) := u_putfT (fun _ => f_okA_eq) (s_putf (ty0 := ey_1) (ok := e_okR) (C := er_1) (T := et_1) (N := 4) (ref := "Plateroomprinter$Code") (index := 11) (ci := 1) (k := 0) hq_7 ho_7 ⟨rfl, by decide, ei_1, r_m_1_61, .inl rfl⟩ eo_1 en_1 e_oksA (.inr ⟨rfl, rfl, rfl⟩) (by decide +kernel) rfl : e_Sn 7 10 (o_putf (e_f1 1 0) e_okR 13)) t_7_13
noncomputable def n_7_8 : e_Y := u_tab (o_newa 0 (e_I 2147483648) 10)
theorem t_7_8 : e_Sn 7 8 (e_un n_7_8) := u_tabT (s_newI r_m_1_78 hq_7 (by decide +kernel) rfl : e_Sn 7 8 (o_newa 0 (e_I 2147483648) 10))
noncomputable def n_7_5 : e_Y := u_push (.inl 2147485648) n_7_8
theorem t_7_5 : e_Sn 7 5 (e_un n_7_5) := u_pushT (s_sipush (n := (2000)) hq_7 (by decide +kernel) rfl ⟨by decide +kernel, by decide +kernel⟩ : e_Sn 7 5 (o_push (.inl 2147485648) 8)) t_7_8
noncomputable def n_7_4 : e_Y := u_ld f_okA f_l0 n_7_5
theorem t_7_4 : e_Sn 7 4 (e_un n_7_4) := u_ldAT f_l0_eq (s_aload (i := .aload_n 0) (len := 1) hq_7 (by decide +kernel) rfl (.inr ⟨0, rfl, rfl, rfl⟩) : e_Sn 7 4 (o_load e_okR 0 5)) t_7_5
noncomputable def n_7_1 : e_Y := u_tab (o_oinit 4)
theorem t_7_1 : e_Sn 7 1 (e_un n_7_1) := u_tabT (s_oinit (idx := 3) hq_7 ho_7 (r_k1 (List.mem_of_getElem? (i := 60) (by decide +kernel))) r_m_1_53 r_m_1_54 (by decide +kernel) rfl : e_Sn 7 1 (o_oinit 4))
noncomputable def n_7_0 : e_Y := u_ld f_okA f_l0 n_7_1
theorem t_7_0 : e_Sn 7 0 (e_un n_7_0) := u_ldAT f_l0_eq (s_aload (i := .aload_n 0) (len := 1) hq_7 (by decide +kernel) rfl (.inr ⟨0, rfl, rfl, rfl⟩) : e_Sn 7 0 (o_load e_okR 0 1)) t_7_1
noncomputable def e_tb_7 : e_X := (e_br 10 (e_br 4 (e_lf 0 (e_un n_7_0)) (e_lf 4 (e_un n_7_4))) (e_br 19 (e_lf 10 (e_un n_7_10)) (e_lf 19 (e_un n_7_19))))
theorem e_tk_7 : e_Tb 7 e_tb_7 := (e_brT (e_brT (e_lfT t_7_0) (e_lfT t_7_4)) (e_brT (e_lfT t_7_10) (e_lfT t_7_19)))
theorem hq_13 : (e_ml[13]?).map (·.2.1) = some prog_3_method_1_code := Eq.trans (congrArg (Option.map (fun e => e.2.1)) hy_13) rfl
theorem ho_13 : (e_ml[13]?).map (·.1.cls) = some "Plateroomprinter$Engine" := Eq.trans (congrArg (Option.map (fun e => e.1.cls)) hy_13) rfl
theorem hr_13 : (e_ml[13]?).map (·.2.2.2) = some none := Eq.trans (congrArg (Option.map (fun e => e.2.2.2)) hy_13) rfl
noncomputable def n_13_102 : e_Y := u_retV
theorem t_13_102 : e_Sn 13 102 (e_un n_13_102) := u_retVT (s_vret hq_13 hr_13 (by decide +kernel) : e_Sn 13 102 (o_retv))
noncomputable def n_13_99 : e_Y := u_putf 2 1 f_okA (u_old (o_putf (e_f1 2 1) e_okR 102) n_13_102) n_13_102
theorem t_13_99 : e_Sn 13 99 (e_un n_13_99) := u_putfT (fun _ => f_okA_eq) (s_putf (ty0 := ey_2) (ok := e_okR) (C := er_2) (T := et_2) (N := 19) (ref := "Plateroomprinter$Engine") (index := 49) (ci := 2) (k := 1) hq_13 ho_13 ⟨rfl, by decide, ei_2, r_m_3_0, .inl rfl⟩ eo_2 en_2 e_oksR (.inr ⟨rfl, rfl, rfl⟩) (by decide +kernel) rfl : e_Sn 13 99 (o_putf (e_f1 2 1) e_okR 102)) t_13_102
noncomputable def n_13_98 : e_Y := u_ld f_okA f_l2 n_13_99
theorem t_13_98 : e_Sn 13 98 (e_un n_13_98) := u_ldAT f_l2_eq (s_aload (i := .aload_n 2) (len := 1) hq_13 (by decide +kernel) rfl (.inr ⟨2, rfl, rfl, rfl⟩) : e_Sn 13 98 (o_load e_okR 2 99)) t_13_99
noncomputable def n_13_97 : e_Y := u_ld f_okA f_l0 n_13_98
theorem t_13_97 : e_Sn 13 97 (e_un n_13_97) := u_ldAT f_l0_eq (s_aload (i := .aload_n 0) (len := 1) hq_13 (by decide +kernel) rfl (.inr ⟨0, rfl, rfl, rfl⟩) : e_Sn 13 97 (o_load e_okR 0 98)) t_13_98
noncomputable def n_13_94 : e_Y := u_putf 2 0 f_okA (u_old (o_putf (e_f1 2 0) e_okR 97) n_13_97) n_13_97
theorem t_13_94 : e_Sn 13 94 (e_un n_13_94) := u_putfT (fun _ => f_okA_eq) (s_putf (ty0 := ey_2) (ok := e_okR) (C := er_2) (T := et_2) (N := 19) (ref := "Plateroomprinter$Engine") (index := 45) (ci := 2) (k := 0) hq_13 ho_13 ⟨rfl, by decide, ei_2, r_m_2_239, .inl rfl⟩ eo_2 en_2 e_oksR (.inr ⟨rfl, rfl, rfl⟩) (by decide +kernel) rfl : e_Sn 13 94 (o_putf (e_f1 2 0) e_okR 97)) t_13_97
noncomputable def n_13_93 : e_Y := u_ld f_okA f_l1 n_13_94
theorem t_13_93 : e_Sn 13 93 (e_un n_13_93) := u_ldAT f_l1_eq (s_aload (i := .aload_n 1) (len := 1) hq_13 (by decide +kernel) rfl (.inr ⟨1, rfl, rfl, rfl⟩) : e_Sn 13 93 (o_load e_okR 1 94)) t_13_94
noncomputable def n_13_92 : e_Y := u_ld f_okA f_l0 n_13_93
theorem t_13_92 : e_Sn 13 92 (e_un n_13_92) := u_ldAT f_l0_eq (s_aload (i := .aload_n 0) (len := 1) hq_13 (by decide +kernel) rfl (.inr ⟨0, rfl, rfl, rfl⟩) : e_Sn 13 92 (o_load e_okR 0 93)) t_13_93
noncomputable def n_13_89 : e_Y := u_putf 2 12 f_okA (u_old (o_putf (e_f1 2 12) e_okR 92) n_13_92) n_13_92
theorem t_13_89 : e_Sn 13 89 (e_un n_13_89) := u_putfT (fun _ => f_okA_eq) (s_putf (ty0 := ey_2) (ok := e_okR) (C := er_2) (T := et_2) (N := 19) (ref := "Plateroomprinter$Engine") (index := 42) (ci := 2) (k := 12) hq_13 ho_13 ⟨rfl, by decide, ei_2, r_m_3_12, .inl rfl⟩ eo_2 en_2 e_oksA (.inr ⟨rfl, rfl, rfl⟩) (by decide +kernel) rfl : e_Sn 13 89 (o_putf (e_f1 2 12) e_okR 92)) t_13_92
noncomputable def n_13_87 : e_Y := u_tab (o_newa 0 (e_I 2147483648) 89)
theorem t_13_87 : e_Sn 13 87 (e_un n_13_87) := u_tabT (s_newI r_m_1_78 hq_13 (by decide +kernel) rfl : e_Sn 13 87 (o_newa 0 (e_I 2147483648) 89))
noncomputable def n_13_85 : e_Y := u_push (.inl 2147483660) n_13_87
theorem t_13_85 : e_Sn 13 85 (e_un n_13_85) := u_pushT (s_bipush (n := (12)) hq_13 (by decide +kernel) rfl ⟨by decide +kernel, by decide +kernel⟩ : e_Sn 13 85 (o_push (.inl 2147483660) 87)) t_13_87
noncomputable def n_13_84 : e_Y := u_ld f_okA f_l0 n_13_85
theorem t_13_84 : e_Sn 13 84 (e_un n_13_84) := u_ldAT f_l0_eq (s_aload (i := .aload_n 0) (len := 1) hq_13 (by decide +kernel) rfl (.inr ⟨0, rfl, rfl, rfl⟩) : e_Sn 13 84 (o_load e_okR 0 85)) t_13_85
noncomputable def n_13_81 : e_Y := u_putf 2 11 f_okA (u_old (o_putf (e_f1 2 11) e_okR 84) n_13_84) n_13_84
theorem t_13_81 : e_Sn 13 81 (e_un n_13_81) := u_putfT (fun _ => f_okA_eq) (s_putf (ty0 := ey_2) (ok := e_okR) (C := er_2) (T := et_2) (N := 19) (ref := "Plateroomprinter$Engine") (index := 39) (ci := 2) (k := 11) hq_13 ho_13 ⟨rfl, by decide, ei_2, r_m_3_11, .inl rfl⟩ eo_2 en_2 e_oksA (.inr ⟨rfl, rfl, rfl⟩) (by decide +kernel) rfl : e_Sn 13 81 (o_putf (e_f1 2 11) e_okR 84)) t_13_84
noncomputable def n_13_79 : e_Y := u_tab (o_newa 0 (e_I 2147483648) 81)
theorem t_13_79 : e_Sn 13 79 (e_un n_13_79) := u_tabT (s_newI r_m_1_78 hq_13 (by decide +kernel) rfl : e_Sn 13 79 (o_newa 0 (e_I 2147483648) 81))
noncomputable def n_13_77 : e_Y := u_push (.inl 2147483660) n_13_79
theorem t_13_77 : e_Sn 13 77 (e_un n_13_77) := u_pushT (s_bipush (n := (12)) hq_13 (by decide +kernel) rfl ⟨by decide +kernel, by decide +kernel⟩ : e_Sn 13 77 (o_push (.inl 2147483660) 79)) t_13_79
noncomputable def n_13_76 : e_Y := u_ld f_okA f_l0 n_13_77
theorem t_13_76 : e_Sn 13 76 (e_un n_13_76) := u_ldAT f_l0_eq (s_aload (i := .aload_n 0) (len := 1) hq_13 (by decide +kernel) rfl (.inr ⟨0, rfl, rfl, rfl⟩) : e_Sn 13 76 (o_load e_okR 0 77)) t_13_77
noncomputable def n_13_73 : e_Y := u_putf 2 10 f_okA (u_old (o_putf (e_f1 2 10) e_okR 76) n_13_76) n_13_76
theorem t_13_73 : e_Sn 13 73 (e_un n_13_73) := u_putfT (fun _ => f_okA_eq) (s_putf (ty0 := ey_2) (ok := e_okR) (C := er_2) (T := et_2) (N := 19) (ref := "Plateroomprinter$Engine") (index := 36) (ci := 2) (k := 10) hq_13 ho_13 ⟨rfl, by decide, ei_2, r_m_3_10, .inl rfl⟩ eo_2 en_2 e_oksA (.inr ⟨rfl, rfl, rfl⟩) (by decide +kernel) rfl : e_Sn 13 73 (o_putf (e_f1 2 10) e_okR 76)) t_13_76
noncomputable def n_13_71 : e_Y := u_tab (o_newa 0 (e_I 2147483648) 73)
theorem t_13_71 : e_Sn 13 71 (e_un n_13_71) := u_tabT (s_newI r_m_1_78 hq_13 (by decide +kernel) rfl : e_Sn 13 71 (o_newa 0 (e_I 2147483648) 73))
noncomputable def n_13_69 : e_Y := u_push (.inl 2147483660) n_13_71
theorem t_13_69 : e_Sn 13 69 (e_un n_13_69) := u_pushT (s_bipush (n := (12)) hq_13 (by decide +kernel) rfl ⟨by decide +kernel, by decide +kernel⟩ : e_Sn 13 69 (o_push (.inl 2147483660) 71)) t_13_71
noncomputable def n_13_68 : e_Y := u_ld f_okA f_l0 n_13_69
theorem t_13_68 : e_Sn 13 68 (e_un n_13_68) := u_ldAT f_l0_eq (s_aload (i := .aload_n 0) (len := 1) hq_13 (by decide +kernel) rfl (.inr ⟨0, rfl, rfl, rfl⟩) : e_Sn 13 68 (o_load e_okR 0 69)) t_13_69
noncomputable def n_13_65 : e_Y := u_putf 2 9 f_okA (u_old (o_putf (e_f1 2 9) e_okR 68) n_13_68) n_13_68
theorem t_13_65 : e_Sn 13 65 (e_un n_13_65) := u_putfT (fun _ => f_okA_eq) (s_putf (ty0 := ey_2) (ok := e_okR) (C := er_2) (T := et_2) (N := 19) (ref := "Plateroomprinter$Engine") (index := 33) (ci := 2) (k := 9) hq_13 ho_13 ⟨rfl, by decide, ei_2, r_m_3_9, .inl rfl⟩ eo_2 en_2 e_oksA (.inr ⟨rfl, rfl, rfl⟩) (by decide +kernel) rfl : e_Sn 13 65 (o_putf (e_f1 2 9) e_okR 68)) t_13_68
noncomputable def n_13_63 : e_Y := u_tab (o_newa 0 (e_I 2147483648) 65)
theorem t_13_63 : e_Sn 13 63 (e_un n_13_63) := u_tabT (s_newI r_m_1_78 hq_13 (by decide +kernel) rfl : e_Sn 13 63 (o_newa 0 (e_I 2147483648) 65))
noncomputable def n_13_61 : e_Y := u_push (.inl 2147483660) n_13_63
theorem t_13_61 : e_Sn 13 61 (e_un n_13_61) := u_pushT (s_bipush (n := (12)) hq_13 (by decide +kernel) rfl ⟨by decide +kernel, by decide +kernel⟩ : e_Sn 13 61 (o_push (.inl 2147483660) 63)) t_13_63
noncomputable def n_13_60 : e_Y := u_ld f_okA f_l0 n_13_61
theorem t_13_60 : e_Sn 13 60 (e_un n_13_60) := u_ldAT f_l0_eq (s_aload (i := .aload_n 0) (len := 1) hq_13 (by decide +kernel) rfl (.inr ⟨0, rfl, rfl, rfl⟩) : e_Sn 13 60 (o_load e_okR 0 61)) t_13_61
noncomputable def n_13_57 : e_Y := u_putf 2 8 f_okA (u_old (o_putf (e_f1 2 8) e_okR 60) n_13_60) n_13_60
theorem t_13_57 : e_Sn 13 57 (e_un n_13_57) := u_putfT (fun _ => f_okA_eq) (s_putf (ty0 := ey_2) (ok := e_okR) (C := er_2) (T := et_2) (N := 19) (ref := "Plateroomprinter$Engine") (index := 30) (ci := 2) (k := 8) hq_13 ho_13 ⟨rfl, by decide, ei_2, r_m_3_8, .inl rfl⟩ eo_2 en_2 e_oksA (.inr ⟨rfl, rfl, rfl⟩) (by decide +kernel) rfl : e_Sn 13 57 (o_putf (e_f1 2 8) e_okR 60)) t_13_60
noncomputable def n_13_55 : e_Y := u_tab (o_newa 0 (e_I 2147483648) 57)
theorem t_13_55 : e_Sn 13 55 (e_un n_13_55) := u_tabT (s_newI r_m_1_78 hq_13 (by decide +kernel) rfl : e_Sn 13 55 (o_newa 0 (e_I 2147483648) 57))
noncomputable def n_13_53 : e_Y := u_push (.inl 2147483660) n_13_55
theorem t_13_53 : e_Sn 13 53 (e_un n_13_53) := u_pushT (s_bipush (n := (12)) hq_13 (by decide +kernel) rfl ⟨by decide +kernel, by decide +kernel⟩ : e_Sn 13 53 (o_push (.inl 2147483660) 55)) t_13_55
noncomputable def n_13_52 : e_Y := u_ld f_okA f_l0 n_13_53
theorem t_13_52 : e_Sn 13 52 (e_un n_13_52) := u_ldAT f_l0_eq (s_aload (i := .aload_n 0) (len := 1) hq_13 (by decide +kernel) rfl (.inr ⟨0, rfl, rfl, rfl⟩) : e_Sn 13 52 (o_load e_okR 0 53)) t_13_53
noncomputable def n_13_49 : e_Y := u_putf 2 7 f_okA (u_old (o_putf (e_f1 2 7) e_okR 52) n_13_52) n_13_52
theorem t_13_49 : e_Sn 13 49 (e_un n_13_49) := u_putfT (fun _ => f_okA_eq) (s_putf (ty0 := ey_2) (ok := e_okR) (C := er_2) (T := et_2) (N := 19) (ref := "Plateroomprinter$Engine") (index := 27) (ci := 2) (k := 7) hq_13 ho_13 ⟨rfl, by decide, ei_2, r_m_3_7, .inl rfl⟩ eo_2 en_2 e_oksA (.inr ⟨rfl, rfl, rfl⟩) (by decide +kernel) rfl : e_Sn 13 49 (o_putf (e_f1 2 7) e_okR 52)) t_13_52
noncomputable def n_13_47 : e_Y := u_tab (o_newa 0 (e_I 2147483648) 49)
theorem t_13_47 : e_Sn 13 47 (e_un n_13_47) := u_tabT (s_newI r_m_1_78 hq_13 (by decide +kernel) rfl : e_Sn 13 47 (o_newa 0 (e_I 2147483648) 49))
noncomputable def n_13_45 : e_Y := u_push (.inl 2147483660) n_13_47
theorem t_13_45 : e_Sn 13 45 (e_un n_13_45) := u_pushT (s_bipush (n := (12)) hq_13 (by decide +kernel) rfl ⟨by decide +kernel, by decide +kernel⟩ : e_Sn 13 45 (o_push (.inl 2147483660) 47)) t_13_47
noncomputable def n_13_44 : e_Y := u_ld f_okA f_l0 n_13_45
theorem t_13_44 : e_Sn 13 44 (e_un n_13_44) := u_ldAT f_l0_eq (s_aload (i := .aload_n 0) (len := 1) hq_13 (by decide +kernel) rfl (.inr ⟨0, rfl, rfl, rfl⟩) : e_Sn 13 44 (o_load e_okR 0 45)) t_13_45
noncomputable def n_13_41 : e_Y := u_putf 2 6 f_okA (u_old (o_putf (e_f1 2 6) e_okR 44) n_13_44) n_13_44
theorem t_13_41 : e_Sn 13 41 (e_un n_13_41) := u_putfT (fun _ => f_okA_eq) (s_putf (ty0 := ey_2) (ok := e_okR) (C := er_2) (T := et_2) (N := 19) (ref := "Plateroomprinter$Engine") (index := 24) (ci := 2) (k := 6) hq_13 ho_13 ⟨rfl, by decide, ei_2, r_m_3_6, .inl rfl⟩ eo_2 en_2 e_oksA (.inr ⟨rfl, rfl, rfl⟩) (by decide +kernel) rfl : e_Sn 13 41 (o_putf (e_f1 2 6) e_okR 44)) t_13_44
noncomputable def n_13_39 : e_Y := u_tab (o_newa 0 (e_I 2147483648) 41)
theorem t_13_39 : e_Sn 13 39 (e_un n_13_39) := u_tabT (s_newI r_m_1_78 hq_13 (by decide +kernel) rfl : e_Sn 13 39 (o_newa 0 (e_I 2147483648) 41))
noncomputable def n_13_37 : e_Y := u_push (.inl 2147483660) n_13_39
theorem t_13_37 : e_Sn 13 37 (e_un n_13_37) := u_pushT (s_bipush (n := (12)) hq_13 (by decide +kernel) rfl ⟨by decide +kernel, by decide +kernel⟩ : e_Sn 13 37 (o_push (.inl 2147483660) 39)) t_13_39
noncomputable def n_13_36 : e_Y := u_ld f_okA f_l0 n_13_37
theorem t_13_36 : e_Sn 13 36 (e_un n_13_36) := u_ldAT f_l0_eq (s_aload (i := .aload_n 0) (len := 1) hq_13 (by decide +kernel) rfl (.inr ⟨0, rfl, rfl, rfl⟩) : e_Sn 13 36 (o_load e_okR 0 37)) t_13_37
noncomputable def n_13_33 : e_Y := u_putf 2 5 f_okA (u_old (o_putf (e_f1 2 5) e_okR 36) n_13_36) n_13_36
theorem t_13_33 : e_Sn 13 33 (e_un n_13_33) := u_putfT (fun _ => f_okA_eq) (s_putf (ty0 := ey_2) (ok := e_okR) (C := er_2) (T := et_2) (N := 19) (ref := "Plateroomprinter$Engine") (index := 21) (ci := 2) (k := 5) hq_13 ho_13 ⟨rfl, by decide, ei_2, r_m_3_5, .inl rfl⟩ eo_2 en_2 e_oksA (.inr ⟨rfl, rfl, rfl⟩) (by decide +kernel) rfl : e_Sn 13 33 (o_putf (e_f1 2 5) e_okR 36)) t_13_36
noncomputable def n_13_31 : e_Y := u_tab (o_newa 0 (e_I 2147483648) 33)
theorem t_13_31 : e_Sn 13 31 (e_un n_13_31) := u_tabT (s_newI r_m_1_78 hq_13 (by decide +kernel) rfl : e_Sn 13 31 (o_newa 0 (e_I 2147483648) 33))
noncomputable def n_13_29 : e_Y := u_push (.inl 2147483660) n_13_31
theorem t_13_29 : e_Sn 13 29 (e_un n_13_29) := u_pushT (s_bipush (n := (12)) hq_13 (by decide +kernel) rfl ⟨by decide +kernel, by decide +kernel⟩ : e_Sn 13 29 (o_push (.inl 2147483660) 31)) t_13_31
noncomputable def n_13_28 : e_Y := u_ld f_okA f_l0 n_13_29
theorem t_13_28 : e_Sn 13 28 (e_un n_13_28) := u_ldAT f_l0_eq (s_aload (i := .aload_n 0) (len := 1) hq_13 (by decide +kernel) rfl (.inr ⟨0, rfl, rfl, rfl⟩) : e_Sn 13 28 (o_load e_okR 0 29)) t_13_29
noncomputable def n_13_25 : e_Y := u_putf 2 4 f_okA (u_old (o_putf (e_f1 2 4) e_okR 28) n_13_28) n_13_28
theorem t_13_25 : e_Sn 13 25 (e_un n_13_25) := u_putfT (fun _ => f_okA_eq) (s_putf (ty0 := ey_2) (ok := e_okR) (C := er_2) (T := et_2) (N := 19) (ref := "Plateroomprinter$Engine") (index := 18) (ci := 2) (k := 4) hq_13 ho_13 ⟨rfl, by decide, ei_2, r_m_3_4, .inl rfl⟩ eo_2 en_2 e_oksA (.inr ⟨rfl, rfl, rfl⟩) (by decide +kernel) rfl : e_Sn 13 25 (o_putf (e_f1 2 4) e_okR 28)) t_13_28
noncomputable def n_13_23 : e_Y := u_tab (o_newa 0 (e_I 2147483648) 25)
theorem t_13_23 : e_Sn 13 23 (e_un n_13_23) := u_tabT (s_newI r_m_1_78 hq_13 (by decide +kernel) rfl : e_Sn 13 23 (o_newa 0 (e_I 2147483648) 25))
noncomputable def n_13_21 : e_Y := u_push (.inl 2147483654) n_13_23
theorem t_13_21 : e_Sn 13 21 (e_un n_13_21) := u_pushT (s_bipush (n := (6)) hq_13 (by decide +kernel) rfl ⟨by decide +kernel, by decide +kernel⟩ : e_Sn 13 21 (o_push (.inl 2147483654) 23)) t_13_23
noncomputable def n_13_20 : e_Y := u_ld f_okA f_l0 n_13_21
theorem t_13_20 : e_Sn 13 20 (e_un n_13_20) := u_ldAT f_l0_eq (s_aload (i := .aload_n 0) (len := 1) hq_13 (by decide +kernel) rfl (.inr ⟨0, rfl, rfl, rfl⟩) : e_Sn 13 20 (o_load e_okR 0 21)) t_13_21
noncomputable def n_13_17 : e_Y := u_putf 2 3 f_okA (u_old (o_putf (e_f1 2 3) e_okR 20) n_13_20) n_13_20
theorem t_13_17 : e_Sn 13 17 (e_un n_13_17) := u_putfT (fun _ => f_okA_eq) (s_putf (ty0 := ey_2) (ok := e_okR) (C := er_2) (T := et_2) (N := 19) (ref := "Plateroomprinter$Engine") (index := 15) (ci := 2) (k := 3) hq_13 ho_13 ⟨rfl, by decide, ei_2, r_m_3_2, .inl rfl⟩ eo_2 en_2 e_oksA (.inr ⟨rfl, rfl, rfl⟩) (by decide +kernel) rfl : e_Sn 13 17 (o_putf (e_f1 2 3) e_okR 20)) t_13_20
noncomputable def n_13_15 : e_Y := u_tab (o_newa 0 (e_I 2147483648) 17)
theorem t_13_15 : e_Sn 13 15 (e_un n_13_15) := u_tabT (s_newI r_m_1_78 hq_13 (by decide +kernel) rfl : e_Sn 13 15 (o_newa 0 (e_I 2147483648) 17))
noncomputable def n_13_13 : e_Y := u_push (.inl 2147483654) n_13_15
theorem t_13_13 : e_Sn 13 13 (e_un n_13_13) := u_pushT (s_bipush (n := (6)) hq_13 (by decide +kernel) rfl ⟨by decide +kernel, by decide +kernel⟩ : e_Sn 13 13 (o_push (.inl 2147483654) 15)) t_13_15
noncomputable def n_13_12 : e_Y := u_ld f_okA f_l0 n_13_13
theorem t_13_12 : e_Sn 13 12 (e_un n_13_12) := u_ldAT f_l0_eq (s_aload (i := .aload_n 0) (len := 1) hq_13 (by decide +kernel) rfl (.inr ⟨0, rfl, rfl, rfl⟩) : e_Sn 13 12 (o_load e_okR 0 13)) t_13_13
noncomputable def n_13_9 : e_Y := u_putf 2 2 f_okA (u_old (o_putf (e_f1 2 2) e_okR 12) n_13_12) n_13_12
theorem t_13_9 : e_Sn 13 9 (e_un n_13_9) := u_putfT (fun _ => f_okA_eq) (s_putf (ty0 := ey_2) (ok := e_okR) (C := er_2) (T := et_2) (N := 19) (ref := "Plateroomprinter$Engine") (index := 11) (ci := 2) (k := 2) hq_13 ho_13 ⟨rfl, by decide, ei_2, r_m_3_1, .inl rfl⟩ eo_2 en_2 e_oksA (.inr ⟨rfl, rfl, rfl⟩) (by decide +kernel) rfl : e_Sn 13 9 (o_putf (e_f1 2 2) e_okR 12)) t_13_12
noncomputable def n_13_7 : e_Y := u_tab (o_newa 0 (e_I 2147483648) 9)
theorem t_13_7 : e_Sn 13 7 (e_un n_13_7) := u_tabT (s_newI r_m_1_78 hq_13 (by decide +kernel) rfl : e_Sn 13 7 (o_newa 0 (e_I 2147483648) 9))
noncomputable def n_13_5 : e_Y := u_push (.inl 2147483654) n_13_7
theorem t_13_5 : e_Sn 13 5 (e_un n_13_5) := u_pushT (s_bipush (n := (6)) hq_13 (by decide +kernel) rfl ⟨by decide +kernel, by decide +kernel⟩ : e_Sn 13 5 (o_push (.inl 2147483654) 7)) t_13_7
noncomputable def n_13_4 : e_Y := u_ld f_okA f_l0 n_13_5
theorem t_13_4 : e_Sn 13 4 (e_un n_13_4) := u_ldAT f_l0_eq (s_aload (i := .aload_n 0) (len := 1) hq_13 (by decide +kernel) rfl (.inr ⟨0, rfl, rfl, rfl⟩) : e_Sn 13 4 (o_load e_okR 0 5)) t_13_5
noncomputable def n_13_1 : e_Y := u_tab (o_oinit 4)
theorem t_13_1 : e_Sn 13 1 (e_un n_13_1) := u_tabT (s_oinit (idx := 3) hq_13 ho_13 (r_k2 (List.mem_of_getElem? (i := 238) (by decide +kernel))) r_m_1_53 r_m_1_54 (by decide +kernel) rfl : e_Sn 13 1 (o_oinit 4))
noncomputable def n_13_0 : e_Y := u_ld f_okA f_l0 n_13_1
theorem t_13_0 : e_Sn 13 0 (e_un n_13_0) := u_ldAT f_l0_eq (s_aload (i := .aload_n 0) (len := 1) hq_13 (by decide +kernel) rfl (.inr ⟨0, rfl, rfl, rfl⟩) : e_Sn 13 0 (o_load e_okR 0 1)) t_13_1
noncomputable def e_tb_13 : e_X := (e_br 41 (e_br 17 (e_br 4 (e_lf 0 (e_un n_13_0)) (e_br 9 (e_lf 4 (e_un n_13_4)) (e_lf 9 (e_un n_13_9)))) (e_br 25 (e_lf 17 (e_un n_13_17)) (e_br 33 (e_lf 25 (e_un n_13_25)) (e_lf 33 (e_un n_13_33))))) (e_br 65 (e_br 49 (e_lf 41 (e_un n_13_41)) (e_br 57 (e_lf 49 (e_un n_13_49)) (e_lf 57 (e_un n_13_57)))) (e_br 81 (e_br 73 (e_lf 65 (e_un n_13_65)) (e_lf 73 (e_un n_13_73))) (e_br 89 (e_lf 81 (e_un n_13_81)) (e_lf 89 (e_un n_13_89))))))
theorem e_tk_13 : e_Tb 13 e_tb_13 := (e_brT (e_brT (e_brT (e_lfT t_13_0) (e_brT (e_lfT t_13_4) (e_lfT t_13_9))) (e_brT (e_lfT t_13_17) (e_brT (e_lfT t_13_25) (e_lfT t_13_33)))) (e_brT (e_brT (e_lfT t_13_41) (e_brT (e_lfT t_13_49) (e_lfT t_13_57))) (e_brT (e_brT (e_lfT t_13_65) (e_lfT t_13_73)) (e_brT (e_lfT t_13_81) (e_lfT t_13_89)))))
theorem hq_44 : (e_ml[44]?).map (·.2.1) = some prog_8_method_1_code := Eq.trans (congrArg (Option.map (fun e => e.2.1)) hy_44) rfl
theorem ho_44 : (e_ml[44]?).map (·.1.cls) = some "Plateroomprinter$Path" := Eq.trans (congrArg (Option.map (fun e => e.1.cls)) hy_44) rfl
theorem hr_44 : (e_ml[44]?).map (·.2.2.2) = some none := Eq.trans (congrArg (Option.map (fun e => e.2.2.2)) hy_44) rfl
noncomputable def n_44_36 : e_Y := u_retV
theorem t_44_36 : e_Sn 44 36 (e_un n_44_36) := u_retVT (s_vret hq_44 hr_44 (by decide +kernel) : e_Sn 44 36 (o_retv))
noncomputable def n_44_33 : e_Y := u_putf 7 3 f_okA (u_old (o_putf (e_f1 7 3) e_okR 36) n_44_36) n_44_36
theorem t_44_33 : e_Sn 44 33 (e_un n_44_33) := u_putfT (fun _ => f_okA_eq) (s_putf (ty0 := ey_7) (ok := e_okR) (C := er_7) (T := et_7) (N := 6) (ref := "Plateroomprinter$Path") (index := 21) (ci := 7) (k := 3) hq_44 ho_44 ⟨rfl, by decide, ei_7, r_m_1_154, .inl rfl⟩ eo_7 en_7 e_oksA (.inr ⟨rfl, rfl, rfl⟩) (by decide +kernel) rfl : e_Sn 44 33 (o_putf (e_f1 7 3) e_okR 36)) t_44_36
noncomputable def n_44_31 : e_Y := u_tab (o_newa 0 (e_I 2147483648) 33)
theorem t_44_31 : e_Sn 44 31 (e_un n_44_31) := u_tabT (s_newI r_m_1_78 hq_44 (by decide +kernel) rfl : e_Sn 44 31 (o_newa 0 (e_I 2147483648) 33))
noncomputable def n_44_29 : e_Y := u_push (.inl 2147483768) n_44_31
theorem t_44_29 : e_Sn 44 29 (e_un n_44_29) := u_pushT (s_bipush (n := (120)) hq_44 (by decide +kernel) rfl ⟨by decide +kernel, by decide +kernel⟩ : e_Sn 44 29 (o_push (.inl 2147483768) 31)) t_44_31
noncomputable def n_44_28 : e_Y := u_ld f_okA f_l0 n_44_29
theorem t_44_28 : e_Sn 44 28 (e_un n_44_28) := u_ldAT f_l0_eq (s_aload (i := .aload_n 0) (len := 1) hq_44 (by decide +kernel) rfl (.inr ⟨0, rfl, rfl, rfl⟩) : e_Sn 44 28 (o_load e_okR 0 29)) t_44_29
noncomputable def n_44_25 : e_Y := u_putf 7 2 f_okA (u_old (o_putf (e_f1 7 2) e_okR 28) n_44_28) n_44_28
theorem t_44_25 : e_Sn 44 25 (e_un n_44_25) := u_putfT (fun _ => f_okA_eq) (s_putf (ty0 := ey_7) (ok := e_okR) (C := er_7) (T := et_7) (N := 6) (ref := "Plateroomprinter$Path") (index := 18) (ci := 7) (k := 2) hq_44 ho_44 ⟨rfl, by decide, ei_7, r_m_1_153, .inl rfl⟩ eo_7 en_7 e_oksA (.inr ⟨rfl, rfl, rfl⟩) (by decide +kernel) rfl : e_Sn 44 25 (o_putf (e_f1 7 2) e_okR 28)) t_44_28
noncomputable def n_44_23 : e_Y := u_tab (o_newa 0 (e_I 2147483648) 25)
theorem t_44_23 : e_Sn 44 23 (e_un n_44_23) := u_tabT (s_newI r_m_1_78 hq_44 (by decide +kernel) rfl : e_Sn 44 23 (o_newa 0 (e_I 2147483648) 25))
noncomputable def n_44_21 : e_Y := u_push (.inl 2147483768) n_44_23
theorem t_44_21 : e_Sn 44 21 (e_un n_44_21) := u_pushT (s_bipush (n := (120)) hq_44 (by decide +kernel) rfl ⟨by decide +kernel, by decide +kernel⟩ : e_Sn 44 21 (o_push (.inl 2147483768) 23)) t_44_23
noncomputable def n_44_20 : e_Y := u_ld f_okA f_l0 n_44_21
theorem t_44_20 : e_Sn 44 20 (e_un n_44_20) := u_ldAT f_l0_eq (s_aload (i := .aload_n 0) (len := 1) hq_44 (by decide +kernel) rfl (.inr ⟨0, rfl, rfl, rfl⟩) : e_Sn 44 20 (o_load e_okR 0 21)) t_44_21
noncomputable def n_44_17 : e_Y := u_putf 7 1 f_okA (u_old (o_putf (e_f1 7 1) e_okR 20) n_44_20) n_44_20
theorem t_44_17 : e_Sn 44 17 (e_un n_44_17) := u_putfT (fun _ => f_okA_eq) (s_putf (ty0 := ey_7) (ok := e_okR) (C := er_7) (T := et_7) (N := 6) (ref := "Plateroomprinter$Path") (index := 15) (ci := 7) (k := 1) hq_44 ho_44 ⟨rfl, by decide, ei_7, r_m_1_151, .inl rfl⟩ eo_7 en_7 e_oksA (.inr ⟨rfl, rfl, rfl⟩) (by decide +kernel) rfl : e_Sn 44 17 (o_putf (e_f1 7 1) e_okR 20)) t_44_20
noncomputable def n_44_15 : e_Y := u_tab (o_newa 0 (e_I 2147483648) 17)
theorem t_44_15 : e_Sn 44 15 (e_un n_44_15) := u_tabT (s_newI r_m_1_78 hq_44 (by decide +kernel) rfl : e_Sn 44 15 (o_newa 0 (e_I 2147483648) 17))
noncomputable def n_44_13 : e_Y := u_push (.inl 2147483768) n_44_15
theorem t_44_13 : e_Sn 44 13 (e_un n_44_13) := u_pushT (s_bipush (n := (120)) hq_44 (by decide +kernel) rfl ⟨by decide +kernel, by decide +kernel⟩ : e_Sn 44 13 (o_push (.inl 2147483768) 15)) t_44_15
noncomputable def n_44_12 : e_Y := u_ld f_okA f_l0 n_44_13
theorem t_44_12 : e_Sn 44 12 (e_un n_44_12) := u_ldAT f_l0_eq (s_aload (i := .aload_n 0) (len := 1) hq_44 (by decide +kernel) rfl (.inr ⟨0, rfl, rfl, rfl⟩) : e_Sn 44 12 (o_load e_okR 0 13)) t_44_13
noncomputable def n_44_9 : e_Y := u_putf 7 0 f_okA (u_old (o_putf (e_f1 7 0) e_okR 12) n_44_12) n_44_12
theorem t_44_9 : e_Sn 44 9 (e_un n_44_9) := u_putfT (fun _ => f_okA_eq) (s_putf (ty0 := ey_7) (ok := e_okR) (C := er_7) (T := et_7) (N := 6) (ref := "Plateroomprinter$Path") (index := 9) (ci := 7) (k := 0) hq_44 ho_44 ⟨rfl, by decide, ei_7, r_m_1_149, .inl rfl⟩ eo_7 en_7 e_oksA (.inr ⟨rfl, rfl, rfl⟩) (by decide +kernel) rfl : e_Sn 44 9 (o_putf (e_f1 7 0) e_okR 12)) t_44_12
noncomputable def n_44_7 : e_Y := u_tab (o_newa 0 (e_I 2147483648) 9)
theorem t_44_7 : e_Sn 44 7 (e_un n_44_7) := u_tabT (s_newI r_m_1_78 hq_44 (by decide +kernel) rfl : e_Sn 44 7 (o_newa 0 (e_I 2147483648) 9))
noncomputable def n_44_5 : e_Y := u_push (.inl 2147483768) n_44_7
theorem t_44_5 : e_Sn 44 5 (e_un n_44_5) := u_pushT (s_bipush (n := (120)) hq_44 (by decide +kernel) rfl ⟨by decide +kernel, by decide +kernel⟩ : e_Sn 44 5 (o_push (.inl 2147483768) 7)) t_44_7
noncomputable def n_44_4 : e_Y := u_ld f_okA f_l0 n_44_5
theorem t_44_4 : e_Sn 44 4 (e_un n_44_4) := u_ldAT f_l0_eq (s_aload (i := .aload_n 0) (len := 1) hq_44 (by decide +kernel) rfl (.inr ⟨0, rfl, rfl, rfl⟩) : e_Sn 44 4 (o_load e_okR 0 5)) t_44_5
noncomputable def n_44_1 : e_Y := u_tab (o_oinit 4)
theorem t_44_1 : e_Sn 44 1 (e_un n_44_1) := u_tabT (s_oinit (idx := 3) hq_44 ho_44 (r_k1 (List.mem_of_getElem? (i := 148) (by decide +kernel))) r_m_1_53 r_m_1_54 (by decide +kernel) rfl : e_Sn 44 1 (o_oinit 4))
noncomputable def n_44_0 : e_Y := u_ld f_okA f_l0 n_44_1
theorem t_44_0 : e_Sn 44 0 (e_un n_44_0) := u_ldAT f_l0_eq (s_aload (i := .aload_n 0) (len := 1) hq_44 (by decide +kernel) rfl (.inr ⟨0, rfl, rfl, rfl⟩) : e_Sn 44 0 (o_load e_okR 0 1)) t_44_1
noncomputable def e_tb_44 : e_X := (e_br 17 (e_br 4 (e_lf 0 (e_un n_44_0)) (e_br 9 (e_lf 4 (e_un n_44_4)) (e_lf 9 (e_un n_44_9)))) (e_br 25 (e_lf 17 (e_un n_44_17)) (e_br 33 (e_lf 25 (e_un n_44_25)) (e_lf 33 (e_un n_44_33)))))
theorem e_tk_44 : e_Tb 44 e_tb_44 := (e_brT (e_brT (e_lfT t_44_0) (e_brT (e_lfT t_44_4) (e_lfT t_44_9))) (e_brT (e_lfT t_44_17) (e_brT (e_lfT t_44_25) (e_lfT t_44_33))))
theorem hq_40 : (e_ml[40]?).map (·.2.1) = some prog_7_method_1_code := Eq.trans (congrArg (Option.map (fun e => e.2.1)) hy_40) rfl
theorem ho_40 : (e_ml[40]?).map (·.1.cls) = some "Plateroomprinter$Painter" := Eq.trans (congrArg (Option.map (fun e => e.1.cls)) hy_40) rfl
theorem hr_40 : (e_ml[40]?).map (·.2.2.2) = some none := Eq.trans (congrArg (Option.map (fun e => e.2.2.2)) hy_40) rfl
noncomputable def n_40_87 : e_Y := u_retV
theorem t_40_87 : e_Sn 40 87 (e_un n_40_87) := u_retVT (s_vret hq_40 hr_40 (by decide +kernel) : e_Sn 40 87 (o_retv))
noncomputable def n_40_84 : e_Y := u_putf 6 2 f_okA (u_old (o_putf (e_f1 6 2) e_okR 87) n_40_87) n_40_87
theorem t_40_84 : e_Sn 40 84 (e_un n_40_84) := u_putfT (fun _ => f_okA_eq) (s_putf (ty0 := ey_6) (ok := e_okR) (C := er_6) (T := et_6) (N := 17) (ref := "Plateroomprinter$Painter") (index := 51) (ci := 6) (k := 2) hq_40 ho_40 ⟨rfl, by decide, ei_6, (r_k2 (List.mem_of_getElem? (i := 183) (by decide +kernel))), .inl rfl⟩ eo_6 en_6 e_oksR (.inr ⟨rfl, rfl, rfl⟩) (by decide +kernel) rfl : e_Sn 40 84 (o_putf (e_f1 6 2) e_okR 87)) t_40_87
noncomputable def n_40_83 : e_Y := u_ld f_okA f_l2 n_40_84
theorem t_40_83 : e_Sn 40 83 (e_un n_40_83) := u_ldAT f_l2_eq (s_aload (i := .aload_n 2) (len := 1) hq_40 (by decide +kernel) rfl (.inr ⟨2, rfl, rfl, rfl⟩) : e_Sn 40 83 (o_load e_okR 2 84)) t_40_84
noncomputable def n_40_82 : e_Y := u_ld f_okA f_l0 n_40_83
theorem t_40_82 : e_Sn 40 82 (e_un n_40_82) := u_ldAT f_l0_eq (s_aload (i := .aload_n 0) (len := 1) hq_40 (by decide +kernel) rfl (.inr ⟨0, rfl, rfl, rfl⟩) : e_Sn 40 82 (o_load e_okR 0 83)) t_40_83
noncomputable def n_40_79 : e_Y := u_putf 6 1 f_okA (u_old (o_putf (e_f1 6 1) e_okR 82) n_40_82) n_40_82
theorem t_40_79 : e_Sn 40 79 (e_un n_40_79) := u_putfT (fun _ => f_okA_eq) (s_putf (ty0 := ey_6) (ok := e_okR) (C := er_6) (T := et_6) (N := 17) (ref := "Plateroomprinter$Painter") (index := 50) (ci := 6) (k := 1) hq_40 ho_40 ⟨rfl, by decide, ei_6, (r_k2 (List.mem_of_getElem? (i := 182) (by decide +kernel))), .inl rfl⟩ eo_6 en_6 e_oksR (.inr ⟨rfl, rfl, rfl⟩) (by decide +kernel) rfl : e_Sn 40 79 (o_putf (e_f1 6 1) e_okR 82)) t_40_82
noncomputable def n_40_76 : e_Y := u_getf 11 2 (u_old (o_getf (e_f1 11 2) 79) n_40_79) n_40_79
theorem t_40_76 : e_Sn 40 76 (e_un n_40_76) := u_getfT (s_getf (C := er_11) (T := et_11) (N := 15) (ref := "Plateroomprinter$World") (index := 44) (ci := 11) (k := 2) hq_40 ho_40 ⟨rfl, by decide, ei_11, (r_k2 (List.mem_of_getElem? (i := 89) (by decide +kernel))), .inl rfl⟩ (by decide +kernel) rfl : e_Sn 40 76 (o_getf (e_f1 11 2) 79)) t_40_79
noncomputable def n_40_75 : e_Y := u_ld f_okA f_l1 n_40_76
theorem t_40_75 : e_Sn 40 75 (e_un n_40_75) := u_ldAT f_l1_eq (s_aload (i := .aload_n 1) (len := 1) hq_40 (by decide +kernel) rfl (.inr ⟨1, rfl, rfl, rfl⟩) : e_Sn 40 75 (o_load e_okR 1 76)) t_40_76
noncomputable def n_40_74 : e_Y := u_ld f_okA f_l0 n_40_75
theorem t_40_74 : e_Sn 40 74 (e_un n_40_74) := u_ldAT f_l0_eq (s_aload (i := .aload_n 0) (len := 1) hq_40 (by decide +kernel) rfl (.inr ⟨0, rfl, rfl, rfl⟩) : e_Sn 40 74 (o_load e_okR 0 75)) t_40_75
noncomputable def n_40_71 : e_Y := u_putf 6 0 f_okA (u_old (o_putf (e_f1 6 0) e_okR 74) n_40_74) n_40_74
theorem t_40_71 : e_Sn 40 71 (e_un n_40_71) := u_putfT (fun _ => f_okA_eq) (s_putf (ty0 := ey_6) (ok := e_okR) (C := er_6) (T := et_6) (N := 17) (ref := "Plateroomprinter$Painter") (index := 40) (ci := 6) (k := 0) hq_40 ho_40 ⟨rfl, by decide, ei_6, r_m_2_181, .inl rfl⟩ eo_6 en_6 e_oksR (.inr ⟨rfl, rfl, rfl⟩) (by decide +kernel) rfl : e_Sn 40 71 (o_putf (e_f1 6 0) e_okR 74)) t_40_74
noncomputable def n_40_70 : e_Y := u_ld f_okA f_l1 n_40_71
theorem t_40_70 : e_Sn 40 70 (e_un n_40_70) := u_ldAT f_l1_eq (s_aload (i := .aload_n 1) (len := 1) hq_40 (by decide +kernel) rfl (.inr ⟨1, rfl, rfl, rfl⟩) : e_Sn 40 70 (o_load e_okR 1 71)) t_40_71
noncomputable def n_40_69 : e_Y := u_ld f_okA f_l0 n_40_70
theorem t_40_69 : e_Sn 40 69 (e_un n_40_69) := u_ldAT f_l0_eq (s_aload (i := .aload_n 0) (len := 1) hq_40 (by decide +kernel) rfl (.inr ⟨0, rfl, rfl, rfl⟩) : e_Sn 40 69 (o_load e_okR 0 70)) t_40_70
noncomputable def n_40_66 : e_Y := u_putf 6 15 f_okA (u_old (o_putf (e_f1 6 15) e_okR 69) n_40_69) n_40_69
theorem t_40_66 : e_Sn 40 66 (e_un n_40_66) := u_putfT (fun _ => f_okA_eq) (s_putf (ty0 := ey_6) (ok := e_okR) (C := er_6) (T := et_6) (N := 17) (ref := "Plateroomprinter$Painter") (index := 37) (ci := 6) (k := 15) hq_40 ho_40 ⟨rfl, by decide, ei_6, (r_k2 (List.mem_of_getElem? (i := 196) (by decide +kernel))), .inl rfl⟩ eo_6 en_6 e_oksA (.inr ⟨rfl, rfl, rfl⟩) (by decide +kernel) rfl : e_Sn 40 66 (o_putf (e_f1 6 15) e_okR 69)) t_40_69
noncomputable def n_40_64 : e_Y := u_tab (o_newa 0 (e_I 2147483648) 66)
theorem t_40_64 : e_Sn 40 64 (e_un n_40_64) := u_tabT (s_newI r_m_1_78 hq_40 (by decide +kernel) rfl : e_Sn 40 64 (o_newa 0 (e_I 2147483648) 66))
noncomputable def n_40_62 : e_Y := u_push (.inl 2147483664) n_40_64
theorem t_40_62 : e_Sn 40 62 (e_un n_40_62) := u_pushT (s_bipush (n := (16)) hq_40 (by decide +kernel) rfl ⟨by decide +kernel, by decide +kernel⟩ : e_Sn 40 62 (o_push (.inl 2147483664) 64)) t_40_64
noncomputable def n_40_61 : e_Y := u_ld f_okA f_l0 n_40_62
theorem t_40_61 : e_Sn 40 61 (e_un n_40_61) := u_ldAT f_l0_eq (s_aload (i := .aload_n 0) (len := 1) hq_40 (by decide +kernel) rfl (.inr ⟨0, rfl, rfl, rfl⟩) : e_Sn 40 61 (o_load e_okR 0 62)) t_40_62
noncomputable def n_40_58 : e_Y := u_putf 6 14 f_okA (u_old (o_putf (e_f1 6 14) e_okR 61) n_40_61) n_40_61
theorem t_40_58 : e_Sn 40 58 (e_un n_40_58) := u_putfT (fun _ => f_okA_eq) (s_putf (ty0 := ey_6) (ok := e_okR) (C := er_6) (T := et_6) (N := 17) (ref := "Plateroomprinter$Painter") (index := 34) (ci := 6) (k := 14) hq_40 ho_40 ⟨rfl, by decide, ei_6, (r_k2 (List.mem_of_getElem? (i := 195) (by decide +kernel))), .inl rfl⟩ eo_6 en_6 e_oksA (.inr ⟨rfl, rfl, rfl⟩) (by decide +kernel) rfl : e_Sn 40 58 (o_putf (e_f1 6 14) e_okR 61)) t_40_61
noncomputable def n_40_56 : e_Y := u_tab (o_newa 0 (e_I 2147483648) 58)
theorem t_40_56 : e_Sn 40 56 (e_un n_40_56) := u_tabT (s_newI r_m_1_78 hq_40 (by decide +kernel) rfl : e_Sn 40 56 (o_newa 0 (e_I 2147483648) 58))
noncomputable def n_40_54 : e_Y := u_push (.inl 2147483664) n_40_56
theorem t_40_54 : e_Sn 40 54 (e_un n_40_54) := u_pushT (s_bipush (n := (16)) hq_40 (by decide +kernel) rfl ⟨by decide +kernel, by decide +kernel⟩ : e_Sn 40 54 (o_push (.inl 2147483664) 56)) t_40_56
noncomputable def n_40_53 : e_Y := u_ld f_okA f_l0 n_40_54
theorem t_40_53 : e_Sn 40 53 (e_un n_40_53) := u_ldAT f_l0_eq (s_aload (i := .aload_n 0) (len := 1) hq_40 (by decide +kernel) rfl (.inr ⟨0, rfl, rfl, rfl⟩) : e_Sn 40 53 (o_load e_okR 0 54)) t_40_54
noncomputable def n_40_50 : e_Y := u_putf 6 13 f_okA (u_old (o_putf (e_f1 6 13) e_okR 53) n_40_53) n_40_53
theorem t_40_50 : e_Sn 40 50 (e_un n_40_50) := u_putfT (fun _ => f_okA_eq) (s_putf (ty0 := ey_6) (ok := e_okR) (C := er_6) (T := et_6) (N := 17) (ref := "Plateroomprinter$Painter") (index := 31) (ci := 6) (k := 13) hq_40 ho_40 ⟨rfl, by decide, ei_6, (r_k2 (List.mem_of_getElem? (i := 194) (by decide +kernel))), .inl rfl⟩ eo_6 en_6 e_oksA (.inr ⟨rfl, rfl, rfl⟩) (by decide +kernel) rfl : e_Sn 40 50 (o_putf (e_f1 6 13) e_okR 53)) t_40_53
noncomputable def n_40_48 : e_Y := u_tab (o_newa 0 (e_I 2147483648) 50)
theorem t_40_48 : e_Sn 40 48 (e_un n_40_48) := u_tabT (s_newI r_m_1_78 hq_40 (by decide +kernel) rfl : e_Sn 40 48 (o_newa 0 (e_I 2147483648) 50))
noncomputable def n_40_46 : e_Y := u_push (.inl 2147483654) n_40_48
theorem t_40_46 : e_Sn 40 46 (e_un n_40_46) := u_pushT (s_bipush (n := (6)) hq_40 (by decide +kernel) rfl ⟨by decide +kernel, by decide +kernel⟩ : e_Sn 40 46 (o_push (.inl 2147483654) 48)) t_40_48
noncomputable def n_40_45 : e_Y := u_ld f_okA f_l0 n_40_46
theorem t_40_45 : e_Sn 40 45 (e_un n_40_45) := u_ldAT f_l0_eq (s_aload (i := .aload_n 0) (len := 1) hq_40 (by decide +kernel) rfl (.inr ⟨0, rfl, rfl, rfl⟩) : e_Sn 40 45 (o_load e_okR 0 46)) t_40_46
noncomputable def n_40_42 : e_Y := u_putf 6 12 f_okA (u_old (o_putf (e_f1 6 12) e_okR 45) n_40_45) n_40_45
theorem t_40_42 : e_Sn 40 42 (e_un n_40_42) := u_putfT (fun _ => f_okA_eq) (s_putf (ty0 := ey_6) (ok := e_okR) (C := er_6) (T := et_6) (N := 17) (ref := "Plateroomprinter$Painter") (index := 28) (ci := 6) (k := 12) hq_40 ho_40 ⟨rfl, by decide, ei_6, (r_k2 (List.mem_of_getElem? (i := 193) (by decide +kernel))), .inl rfl⟩ eo_6 en_6 e_oksA (.inr ⟨rfl, rfl, rfl⟩) (by decide +kernel) rfl : e_Sn 40 42 (o_putf (e_f1 6 12) e_okR 45)) t_40_45
noncomputable def n_40_40 : e_Y := u_tab (o_newa 0 (e_I 2147483648) 42)
theorem t_40_40 : e_Sn 40 40 (e_un n_40_40) := u_tabT (s_newI r_m_1_78 hq_40 (by decide +kernel) rfl : e_Sn 40 40 (o_newa 0 (e_I 2147483648) 42))
noncomputable def n_40_38 : e_Y := u_push (.inl 2147483696) n_40_40
theorem t_40_38 : e_Sn 40 38 (e_un n_40_38) := u_pushT (s_bipush (n := (48)) hq_40 (by decide +kernel) rfl ⟨by decide +kernel, by decide +kernel⟩ : e_Sn 40 38 (o_push (.inl 2147483696) 40)) t_40_40
noncomputable def n_40_37 : e_Y := u_ld f_okA f_l0 n_40_38
theorem t_40_37 : e_Sn 40 37 (e_un n_40_37) := u_ldAT f_l0_eq (s_aload (i := .aload_n 0) (len := 1) hq_40 (by decide +kernel) rfl (.inr ⟨0, rfl, rfl, rfl⟩) : e_Sn 40 37 (o_load e_okR 0 38)) t_40_38
noncomputable def n_40_34 : e_Y := u_putf 6 11 f_okA (u_old (o_putf (e_f1 6 11) e_okR 37) n_40_37) n_40_37
theorem t_40_34 : e_Sn 40 34 (e_un n_40_34) := u_putfT (fun _ => f_okA_eq) (s_putf (ty0 := ey_6) (ok := e_okR) (C := er_6) (T := et_6) (N := 17) (ref := "Plateroomprinter$Painter") (index := 25) (ci := 6) (k := 11) hq_40 ho_40 ⟨rfl, by decide, ei_6, (r_k2 (List.mem_of_getElem? (i := 192) (by decide +kernel))), .inl rfl⟩ eo_6 en_6 e_oksA (.inr ⟨rfl, rfl, rfl⟩) (by decide +kernel) rfl : e_Sn 40 34 (o_putf (e_f1 6 11) e_okR 37)) t_40_37
noncomputable def n_40_32 : e_Y := u_tab (o_newa 0 (e_I 2147483648) 34)
theorem t_40_32 : e_Sn 40 32 (e_un n_40_32) := u_tabT (s_newI r_m_1_78 hq_40 (by decide +kernel) rfl : e_Sn 40 32 (o_newa 0 (e_I 2147483648) 34))
noncomputable def n_40_31 : e_Y := u_push (.inl 2147483652) n_40_32
theorem t_40_31 : e_Sn 40 31 (e_un n_40_31) := u_pushT (s_iconst (n := (4)) hq_40 (by decide +kernel) rfl ⟨by decide +kernel, by decide +kernel⟩ : e_Sn 40 31 (o_push (.inl 2147483652) 32)) t_40_32
noncomputable def n_40_30 : e_Y := u_ld f_okA f_l0 n_40_31
theorem t_40_30 : e_Sn 40 30 (e_un n_40_30) := u_ldAT f_l0_eq (s_aload (i := .aload_n 0) (len := 1) hq_40 (by decide +kernel) rfl (.inr ⟨0, rfl, rfl, rfl⟩) : e_Sn 40 30 (o_load e_okR 0 31)) t_40_31
noncomputable def n_40_27 : e_Y := u_putf 6 10 f_okA (u_old (o_putf (e_f1 6 10) e_okR 30) n_40_30) n_40_30
theorem t_40_27 : e_Sn 40 27 (e_un n_40_27) := u_putfT (fun _ => f_okA_eq) (s_putf (ty0 := ey_6) (ok := e_okR) (C := er_6) (T := et_6) (N := 17) (ref := "Plateroomprinter$Painter") (index := 22) (ci := 6) (k := 10) hq_40 ho_40 ⟨rfl, by decide, ei_6, (r_k2 (List.mem_of_getElem? (i := 191) (by decide +kernel))), .inl rfl⟩ eo_6 en_6 e_oksA (.inr ⟨rfl, rfl, rfl⟩) (by decide +kernel) rfl : e_Sn 40 27 (o_putf (e_f1 6 10) e_okR 30)) t_40_30
noncomputable def n_40_25 : e_Y := u_tab (o_newa 0 (e_I 2147483648) 27)
theorem t_40_25 : e_Sn 40 25 (e_un n_40_25) := u_tabT (s_newI r_m_1_78 hq_40 (by decide +kernel) rfl : e_Sn 40 25 (o_newa 0 (e_I 2147483648) 27))
noncomputable def n_40_24 : e_Y := u_push (.inl 2147483652) n_40_25
theorem t_40_24 : e_Sn 40 24 (e_un n_40_24) := u_pushT (s_iconst (n := (4)) hq_40 (by decide +kernel) rfl ⟨by decide +kernel, by decide +kernel⟩ : e_Sn 40 24 (o_push (.inl 2147483652) 25)) t_40_25
noncomputable def n_40_23 : e_Y := u_ld f_okA f_l0 n_40_24
theorem t_40_23 : e_Sn 40 23 (e_un n_40_23) := u_ldAT f_l0_eq (s_aload (i := .aload_n 0) (len := 1) hq_40 (by decide +kernel) rfl (.inr ⟨0, rfl, rfl, rfl⟩) : e_Sn 40 23 (o_load e_okR 0 24)) t_40_24
noncomputable def n_40_20 : e_Y := u_putf 6 9 f_okA (u_old (o_putf (e_f1 6 9) e_okR 23) n_40_23) n_40_23
theorem t_40_20 : e_Sn 40 20 (e_un n_40_20) := u_putfT (fun _ => f_okA_eq) (s_putf (ty0 := ey_6) (ok := e_okR) (C := er_6) (T := et_6) (N := 17) (ref := "Plateroomprinter$Painter") (index := 18) (ci := 6) (k := 9) hq_40 ho_40 ⟨rfl, by decide, ei_6, (r_k2 (List.mem_of_getElem? (i := 190) (by decide +kernel))), .inl rfl⟩ eo_6 en_6 e_oksR (.inr ⟨rfl, rfl, rfl⟩) (by decide +kernel) rfl : e_Sn 40 20 (o_putf (e_f1 6 9) e_okR 23)) t_40_23
noncomputable def n_40_17 : e_Y := u_callI 44 1 20 1 n_44_0 n_40_20
theorem t_40_17 : e_Sn 40 17 (e_un n_40_17) := u_callIT rfl (s_callIN (host := "Plateroomprinter") (index := 17) hq_40 ho_40 hy_44 hp_44 hc_44 hi_44 hd_44 (r_k2 (List.mem_of_getElem? (i := 180) (by decide +kernel))) rfl rfl hs_44 (by decide +kernel) rfl : e_Sn 40 17 (o_callI 44 1 1 20)) t_44_0 t_40_20
noncomputable def n_40_16 : e_Y := u_old (o_dup 17) n_40_17
theorem t_40_16 : e_Sn 40 16 (e_un n_40_16) := u_oldT (s_dup hq_40 (by decide +kernel) rfl : e_Sn 40 16 (o_dup 17)) t_40_17 e_cg_dup
noncomputable def n_40_13 : e_Y := u_tab (o_new 7 6 ef_7 16)
theorem t_40_13 : e_Sn 40 13 (e_un n_40_13) := u_tabT (s_new (index := 15) (ci := 7) (N := 6) (C := er_7) (T := et_7) (ty0 := ey_7) (fv := eg_7) hq_40 ho_40 rfl ei_7 eo_7 (r_k2 (List.mem_of_getElem? (i := 179) (by decide +kernel))) r_m_1_144 r_m_1_8 eh_7 rfl (e_newrel ek_7) (by decide +kernel) rfl : e_Sn 40 13 (o_new 7 6 ef_7 16))
noncomputable def n_40_12 : e_Y := u_ld f_okA f_l0 n_40_13
theorem t_40_12 : e_Sn 40 12 (e_un n_40_12) := u_ldAT f_l0_eq (s_aload (i := .aload_n 0) (len := 1) hq_40 (by decide +kernel) rfl (.inr ⟨0, rfl, rfl, rfl⟩) : e_Sn 40 12 (o_load e_okR 0 13)) t_40_13
noncomputable def n_40_9 : e_Y := u_putf 6 3 f_okA (u_old (o_putf (e_f1 6 3) e_okR 12) n_40_12) n_40_12
theorem t_40_9 : e_Sn 40 9 (e_un n_40_9) := u_putfT (fun _ => f_okA_eq) (s_putf (ty0 := ey_6) (ok := e_okR) (C := er_6) (T := et_6) (N := 17) (ref := "Plateroomprinter$Painter") (index := 9) (ci := 6) (k := 3) hq_40 ho_40 ⟨rfl, by decide, ei_6, (r_k2 (List.mem_of_getElem? (i := 184) (by decide +kernel))), .inl rfl⟩ eo_6 en_6 e_oksA (.inr ⟨rfl, rfl, rfl⟩) (by decide +kernel) rfl : e_Sn 40 9 (o_putf (e_f1 6 3) e_okR 12)) t_40_12
noncomputable def n_40_7 : e_Y := u_tab (o_newa 0 (e_I 2147483648) 9)
theorem t_40_7 : e_Sn 40 7 (e_un n_40_7) := u_tabT (s_newI r_m_1_78 hq_40 (by decide +kernel) rfl : e_Sn 40 7 (o_newa 0 (e_I 2147483648) 9))
noncomputable def n_40_5 : e_Y := u_push (.inl 2147483680) n_40_7
theorem t_40_5 : e_Sn 40 5 (e_un n_40_5) := u_pushT (s_bipush (n := (32)) hq_40 (by decide +kernel) rfl ⟨by decide +kernel, by decide +kernel⟩ : e_Sn 40 5 (o_push (.inl 2147483680) 7)) t_40_7
noncomputable def n_40_4 : e_Y := u_ld f_okA f_l0 n_40_5
theorem t_40_4 : e_Sn 40 4 (e_un n_40_4) := u_ldAT f_l0_eq (s_aload (i := .aload_n 0) (len := 1) hq_40 (by decide +kernel) rfl (.inr ⟨0, rfl, rfl, rfl⟩) : e_Sn 40 4 (o_load e_okR 0 5)) t_40_5
noncomputable def n_40_1 : e_Y := u_tab (o_oinit 4)
theorem t_40_1 : e_Sn 40 1 (e_un n_40_1) := u_tabT (s_oinit (idx := 3) hq_40 ho_40 (r_k2 (List.mem_of_getElem? (i := 178) (by decide +kernel))) r_m_1_53 r_m_1_54 (by decide +kernel) rfl : e_Sn 40 1 (o_oinit 4))
noncomputable def n_40_0 : e_Y := u_ld f_okA f_l0 n_40_1
theorem t_40_0 : e_Sn 40 0 (e_un n_40_0) := u_ldAT f_l0_eq (s_aload (i := .aload_n 0) (len := 1) hq_40 (by decide +kernel) rfl (.inr ⟨0, rfl, rfl, rfl⟩) : e_Sn 40 0 (o_load e_okR 0 1)) t_40_1
noncomputable def e_tb_40 : e_X := (e_br 34 (e_br 9 (e_br 4 (e_lf 0 (e_un n_40_0)) (e_lf 4 (e_un n_40_4))) (e_br 16 (e_lf 9 (e_un n_40_9)) (e_br 27 (e_lf 16 (e_un n_40_16)) (e_lf 27 (e_un n_40_27))))) (e_br 50 (e_br 42 (e_lf 34 (e_un n_40_34)) (e_lf 42 (e_un n_40_42))) (e_br 58 (e_lf 50 (e_un n_40_50)) (e_br 66 (e_lf 58 (e_un n_40_58)) (e_lf 66 (e_un n_40_66))))))
theorem e_tk_40 : e_Tb 40 e_tb_40 := (e_brT (e_brT (e_brT (e_lfT t_40_0) (e_lfT t_40_4)) (e_brT (e_lfT t_40_9) (e_brT (e_lfT t_40_16) (e_lfT t_40_27)))) (e_brT (e_brT (e_lfT t_40_34) (e_lfT t_40_42)) (e_brT (e_lfT t_40_50) (e_brT (e_lfT t_40_58) (e_lfT t_40_66)))))
theorem hq_47 : (e_ml[47]?).map (·.2.1) = some prog_9_method_1_code := Eq.trans (congrArg (Option.map (fun e => e.2.1)) hy_47) rfl
theorem ho_47 : (e_ml[47]?).map (·.1.cls) = some "Plateroomprinter$Raster" := Eq.trans (congrArg (Option.map (fun e => e.1.cls)) hy_47) rfl
theorem hr_47 : (e_ml[47]?).map (·.2.2.2) = some none := Eq.trans (congrArg (Option.map (fun e => e.2.2.2)) hy_47) rfl
noncomputable def n_47_24 : e_Y := u_retV
theorem t_47_24 : e_Sn 47 24 (e_un n_47_24) := u_retVT (s_vret hq_47 hr_47 (by decide +kernel) : e_Sn 47 24 (o_retv))
noncomputable def n_47_21 : e_Y := u_putf 8 2 f_okI (u_old (o_putf (e_f1 8 2) e_okI 24) n_47_24) n_47_24
theorem t_47_21 : e_Sn 47 21 (e_un n_47_21) := u_putfT (fun _ => f_okI_eq) (s_putf (ty0 := ey_8) (ok := e_okI) (C := er_8) (T := et_8) (N := 3) (ref := "Plateroomprinter$Raster") (index := 19) (ci := 8) (k := 2) hq_47 ho_47 ⟨rfl, by decide, ei_8, (r_k2 (List.mem_of_getElem? (i := 165) (by decide +kernel))), .inl rfl⟩ eo_8 en_8 e_oksI (.inl rfl) (by decide +kernel) rfl : e_Sn 47 21 (o_putf (e_f1 8 2) e_okI 24)) t_47_24
noncomputable def n_47_20 : e_Y := u_push (.inl 2147483647) n_47_21
theorem t_47_20 : e_Sn 47 20 (e_un n_47_20) := u_pushT (s_iconst (n := (-1)) hq_47 (by decide +kernel) rfl ⟨by decide +kernel, by decide +kernel⟩ : e_Sn 47 20 (o_push (.inl 2147483647) 21)) t_47_21
noncomputable def n_47_19 : e_Y := u_ld f_okA f_l0 n_47_20
theorem t_47_19 : e_Sn 47 19 (e_un n_47_19) := u_ldAT f_l0_eq (s_aload (i := .aload_n 0) (len := 1) hq_47 (by decide +kernel) rfl (.inr ⟨0, rfl, rfl, rfl⟩) : e_Sn 47 19 (o_load e_okR 0 20)) t_47_20
noncomputable def n_47_16 : e_Y := u_putf 8 1 f_okI (u_old (o_putf (e_f1 8 1) e_okI 19) n_47_19) n_47_19
theorem t_47_16 : e_Sn 47 16 (e_un n_47_16) := u_putfT (fun _ => f_okI_eq) (s_putf (ty0 := ey_8) (ok := e_okI) (C := er_8) (T := et_8) (N := 3) (ref := "Plateroomprinter$Raster") (index := 15) (ci := 8) (k := 1) hq_47 ho_47 ⟨rfl, by decide, ei_8, (r_k2 (List.mem_of_getElem? (i := 164) (by decide +kernel))), .inl rfl⟩ eo_8 en_8 e_oksI (.inl rfl) (by decide +kernel) rfl : e_Sn 47 16 (o_putf (e_f1 8 1) e_okI 19)) t_47_19
noncomputable def n_47_14 : e_Y := u_push (.inl 2147483680) n_47_16
theorem t_47_14 : e_Sn 47 14 (e_un n_47_14) := u_pushT (s_bipush (n := (32)) hq_47 (by decide +kernel) rfl ⟨by decide +kernel, by decide +kernel⟩ : e_Sn 47 14 (o_push (.inl 2147483680) 16)) t_47_16
noncomputable def n_47_13 : e_Y := u_ld f_okA f_l0 n_47_14
theorem t_47_13 : e_Sn 47 13 (e_un n_47_13) := u_ldAT f_l0_eq (s_aload (i := .aload_n 0) (len := 1) hq_47 (by decide +kernel) rfl (.inr ⟨0, rfl, rfl, rfl⟩) : e_Sn 47 13 (o_load e_okR 0 14)) t_47_14
noncomputable def n_47_10 : e_Y := u_putf 8 0 f_okA (u_old (o_putf (e_f1 8 0) e_okR 13) n_47_13) n_47_13
theorem t_47_10 : e_Sn 47 10 (e_un n_47_10) := u_putfT (fun _ => f_okA_eq) (s_putf (ty0 := ey_8) (ok := e_okR) (C := er_8) (T := et_8) (N := 3) (ref := "Plateroomprinter$Raster") (index := 9) (ci := 8) (k := 0) hq_47 ho_47 ⟨rfl, by decide, ei_8, (r_k2 (List.mem_of_getElem? (i := 163) (by decide +kernel))), .inl rfl⟩ eo_8 en_8 e_oksA (.inr ⟨rfl, rfl, rfl⟩) (by decide +kernel) rfl : e_Sn 47 10 (o_putf (e_f1 8 0) e_okR 13)) t_47_13
noncomputable def n_47_8 : e_Y := u_tab (o_newa 0 (e_I 2147483648) 10)
theorem t_47_8 : e_Sn 47 8 (e_un n_47_8) := u_tabT (s_newI r_m_1_78 hq_47 (by decide +kernel) rfl : e_Sn 47 8 (o_newa 0 (e_I 2147483648) 10))
noncomputable def n_47_5 : e_Y := u_push (.inl 2147484672) n_47_8
theorem t_47_5 : e_Sn 47 5 (e_un n_47_5) := u_pushT (s_sipush (n := (1024)) hq_47 (by decide +kernel) rfl ⟨by decide +kernel, by decide +kernel⟩ : e_Sn 47 5 (o_push (.inl 2147484672) 8)) t_47_8
noncomputable def n_47_4 : e_Y := u_ld f_okA f_l0 n_47_5
theorem t_47_4 : e_Sn 47 4 (e_un n_47_4) := u_ldAT f_l0_eq (s_aload (i := .aload_n 0) (len := 1) hq_47 (by decide +kernel) rfl (.inr ⟨0, rfl, rfl, rfl⟩) : e_Sn 47 4 (o_load e_okR 0 5)) t_47_5
noncomputable def n_47_1 : e_Y := u_tab (o_oinit 4)
theorem t_47_1 : e_Sn 47 1 (e_un n_47_1) := u_tabT (s_oinit (idx := 3) hq_47 ho_47 (r_k2 (List.mem_of_getElem? (i := 162) (by decide +kernel))) r_m_1_53 r_m_1_54 (by decide +kernel) rfl : e_Sn 47 1 (o_oinit 4))
noncomputable def n_47_0 : e_Y := u_ld f_okA f_l0 n_47_1
theorem t_47_0 : e_Sn 47 0 (e_un n_47_0) := u_ldAT f_l0_eq (s_aload (i := .aload_n 0) (len := 1) hq_47 (by decide +kernel) rfl (.inr ⟨0, rfl, rfl, rfl⟩) : e_Sn 47 0 (o_load e_okR 0 1)) t_47_1
noncomputable def e_tb_47 : e_X := (e_br 4 (e_lf 0 (e_un n_47_0)) (e_br 10 (e_lf 4 (e_un n_47_4)) (e_lf 10 (e_un n_47_10))))
theorem e_tk_47 : e_Tb 47 e_tb_47 := (e_brT (e_lfT t_47_0) (e_brT (e_lfT t_47_4) (e_lfT t_47_10)))
theorem hq_48 : (e_ml[48]?).map (·.2.1) = some prog_10_method_1_code := Eq.trans (congrArg (Option.map (fun e => e.2.1)) hy_48) rfl
theorem ho_48 : (e_ml[48]?).map (·.1.cls) = some "Plateroomprinter$Sheet" := Eq.trans (congrArg (Option.map (fun e => e.1.cls)) hy_48) rfl
theorem hr_48 : (e_ml[48]?).map (·.2.2.2) = some none := Eq.trans (congrArg (Option.map (fun e => e.2.2.2)) hy_48) rfl
noncomputable def n_48_13 : e_Y := u_retV
theorem t_48_13 : e_Sn 48 13 (e_un n_48_13) := u_retVT (s_vret hq_48 hr_48 (by decide +kernel) : e_Sn 48 13 (o_retv))
noncomputable def n_48_10 : e_Y := u_putf 9 0 f_okA (u_old (o_putf (e_f1 9 0) e_okR 13) n_48_13) n_48_13
theorem t_48_10 : e_Sn 48 10 (e_un n_48_10) := u_putfT (fun _ => f_okA_eq) (s_putf (ty0 := ey_9) (ok := e_okR) (C := er_9) (T := et_9) (N := 1) (ref := "Plateroomprinter$Sheet") (index := 9) (ci := 9) (k := 0) hq_48 ho_48 ⟨rfl, by decide, ei_9, r_m_2_4, .inl rfl⟩ eo_9 en_9 e_oksA (.inr ⟨rfl, rfl, rfl⟩) (by decide +kernel) rfl : e_Sn 48 10 (o_putf (e_f1 9 0) e_okR 13)) t_48_13
noncomputable def n_48_8 : e_Y := u_tab (o_newa 0 (e_I 2147483648) 10)
theorem t_48_8 : e_Sn 48 8 (e_un n_48_8) := u_tabT (s_newI r_m_1_78 hq_48 (by decide +kernel) rfl : e_Sn 48 8 (o_newa 0 (e_I 2147483648) 10))
noncomputable def n_48_5 : e_Y := u_push (.inl 2147483776) n_48_8
theorem t_48_5 : e_Sn 48 5 (e_un n_48_5) := u_pushT (s_sipush (n := (128)) hq_48 (by decide +kernel) rfl ⟨by decide +kernel, by decide +kernel⟩ : e_Sn 48 5 (o_push (.inl 2147483776) 8)) t_48_8
noncomputable def n_48_4 : e_Y := u_ld f_okA f_l0 n_48_5
theorem t_48_4 : e_Sn 48 4 (e_un n_48_4) := u_ldAT f_l0_eq (s_aload (i := .aload_n 0) (len := 1) hq_48 (by decide +kernel) rfl (.inr ⟨0, rfl, rfl, rfl⟩) : e_Sn 48 4 (o_load e_okR 0 5)) t_48_5
noncomputable def n_48_1 : e_Y := u_tab (o_oinit 4)
theorem t_48_1 : e_Sn 48 1 (e_un n_48_1) := u_tabT (s_oinit (idx := 3) hq_48 ho_48 (r_k2 (List.mem_of_getElem? (i := 3) (by decide +kernel))) r_m_1_53 r_m_1_54 (by decide +kernel) rfl : e_Sn 48 1 (o_oinit 4))
noncomputable def n_48_0 : e_Y := u_ld f_okA f_l0 n_48_1
theorem t_48_0 : e_Sn 48 0 (e_un n_48_0) := u_ldAT f_l0_eq (s_aload (i := .aload_n 0) (len := 1) hq_48 (by decide +kernel) rfl (.inr ⟨0, rfl, rfl, rfl⟩) : e_Sn 48 0 (o_load e_okR 0 1)) t_48_1
noncomputable def e_tb_48 : e_X := (e_br 4 (e_lf 0 (e_un n_48_0)) (e_br 10 (e_lf 4 (e_un n_48_4)) (e_lf 10 (e_un n_48_10))))
theorem e_tk_48 : e_Tb 48 e_tb_48 := (e_brT (e_lfT t_48_0) (e_brT (e_lfT t_48_4) (e_lfT t_48_10)))
theorem hq_27 : (e_ml[27]?).map (·.2.1) = some prog_4_method_1_code := Eq.trans (congrArg (Option.map (fun e => e.2.1)) hy_27) rfl
theorem ho_27 : (e_ml[27]?).map (·.1.cls) = some "Plateroomprinter$Figures" := Eq.trans (congrArg (Option.map (fun e => e.1.cls)) hy_27) rfl
theorem hr_27 : (e_ml[27]?).map (·.2.2.2) = some none := Eq.trans (congrArg (Option.map (fun e => e.2.2.2)) hy_27) rfl
noncomputable def n_27_38 : e_Y := u_retV
theorem t_27_38 : e_Sn 27 38 (e_un n_27_38) := u_retVT (s_vret hq_27 hr_27 (by decide +kernel) : e_Sn 27 38 (o_retv))
noncomputable def n_27_35 : e_Y := u_putf 3 3 f_okA (u_old (o_putf (e_f1 3 3) e_okR 38) n_27_38) n_27_38
theorem t_27_35 : e_Sn 27 35 (e_un n_27_35) := u_putfT (fun _ => f_okA_eq) (s_putf (ty0 := ey_3) (ok := e_okR) (C := er_3) (T := et_3) (N := 5) (ref := "Plateroomprinter$Figures") (index := 21) (ci := 3) (k := 3) hq_27 ho_27 ⟨rfl, by decide, ei_3, (r_k2 (List.mem_of_getElem? (i := 21) (by decide +kernel))), .inl rfl⟩ eo_3 en_3 e_oksA (.inr ⟨rfl, rfl, rfl⟩) (by decide +kernel) rfl : e_Sn 27 35 (o_putf (e_f1 3 3) e_okR 38)) t_27_38
noncomputable def n_27_33 : e_Y := u_tab (o_newa 0 (e_I 2147483648) 35)
theorem t_27_33 : e_Sn 27 33 (e_un n_27_33) := u_tabT (s_newI r_m_1_78 hq_27 (by decide +kernel) rfl : e_Sn 27 33 (o_newa 0 (e_I 2147483648) 35))
noncomputable def n_27_31 : e_Y := u_push (.inl 2147483708) n_27_33
theorem t_27_31 : e_Sn 27 31 (e_un n_27_31) := u_pushT (s_bipush (n := (60)) hq_27 (by decide +kernel) rfl ⟨by decide +kernel, by decide +kernel⟩ : e_Sn 27 31 (o_push (.inl 2147483708) 33)) t_27_33
noncomputable def n_27_30 : e_Y := u_ld f_okA f_l0 n_27_31
theorem t_27_30 : e_Sn 27 30 (e_un n_27_30) := u_ldAT f_l0_eq (s_aload (i := .aload_n 0) (len := 1) hq_27 (by decide +kernel) rfl (.inr ⟨0, rfl, rfl, rfl⟩) : e_Sn 27 30 (o_load e_okR 0 31)) t_27_31
noncomputable def n_27_27 : e_Y := u_putf 3 2 f_okA (u_old (o_putf (e_f1 3 2) e_okR 30) n_27_30) n_27_30
theorem t_27_27 : e_Sn 27 27 (e_un n_27_27) := u_putfT (fun _ => f_okA_eq) (s_putf (ty0 := ey_3) (ok := e_okR) (C := er_3) (T := et_3) (N := 5) (ref := "Plateroomprinter$Figures") (index := 18) (ci := 3) (k := 2) hq_27 ho_27 ⟨rfl, by decide, ei_3, (r_k2 (List.mem_of_getElem? (i := 19) (by decide +kernel))), .inl rfl⟩ eo_3 en_3 e_oksA (.inr ⟨rfl, rfl, rfl⟩) (by decide +kernel) rfl : e_Sn 27 27 (o_putf (e_f1 3 2) e_okR 30)) t_27_30
noncomputable def n_27_25 : e_Y := u_tab (o_newa 0 (e_I 2147483648) 27)
theorem t_27_25 : e_Sn 27 25 (e_un n_27_25) := u_tabT (s_newI r_m_1_78 hq_27 (by decide +kernel) rfl : e_Sn 27 25 (o_newa 0 (e_I 2147483648) 27))
noncomputable def n_27_23 : e_Y := u_push (.inl 2147483708) n_27_25
theorem t_27_23 : e_Sn 27 23 (e_un n_27_23) := u_pushT (s_bipush (n := (60)) hq_27 (by decide +kernel) rfl ⟨by decide +kernel, by decide +kernel⟩ : e_Sn 27 23 (o_push (.inl 2147483708) 25)) t_27_25
noncomputable def n_27_22 : e_Y := u_ld f_okA f_l0 n_27_23
theorem t_27_22 : e_Sn 27 22 (e_un n_27_22) := u_ldAT f_l0_eq (s_aload (i := .aload_n 0) (len := 1) hq_27 (by decide +kernel) rfl (.inr ⟨0, rfl, rfl, rfl⟩) : e_Sn 27 22 (o_load e_okR 0 23)) t_27_23
noncomputable def n_27_19 : e_Y := u_putf 3 1 f_okA (u_old (o_putf (e_f1 3 1) e_okR 22) n_27_22) n_27_22
theorem t_27_19 : e_Sn 27 19 (e_un n_27_19) := u_putfT (fun _ => f_okA_eq) (s_putf (ty0 := ey_3) (ok := e_okR) (C := er_3) (T := et_3) (N := 5) (ref := "Plateroomprinter$Figures") (index := 15) (ci := 3) (k := 1) hq_27 ho_27 ⟨rfl, by decide, ei_3, (r_k2 (List.mem_of_getElem? (i := 17) (by decide +kernel))), .inl rfl⟩ eo_3 en_3 e_oksA (.inr ⟨rfl, rfl, rfl⟩) (by decide +kernel) rfl : e_Sn 27 19 (o_putf (e_f1 3 1) e_okR 22)) t_27_22
noncomputable def n_27_17 : e_Y := u_tab (o_newa 0 (e_I 2147483648) 19)
theorem t_27_17 : e_Sn 27 17 (e_un n_27_17) := u_tabT (s_newI r_m_1_78 hq_27 (by decide +kernel) rfl : e_Sn 27 17 (o_newa 0 (e_I 2147483648) 19))
noncomputable def n_27_14 : e_Y := u_push (.inl 2147483888) n_27_17
theorem t_27_14 : e_Sn 27 14 (e_un n_27_14) := u_pushT (s_sipush (n := (240)) hq_27 (by decide +kernel) rfl ⟨by decide +kernel, by decide +kernel⟩ : e_Sn 27 14 (o_push (.inl 2147483888) 17)) t_27_17
noncomputable def n_27_13 : e_Y := u_ld f_okA f_l0 n_27_14
theorem t_27_13 : e_Sn 27 13 (e_un n_27_13) := u_ldAT f_l0_eq (s_aload (i := .aload_n 0) (len := 1) hq_27 (by decide +kernel) rfl (.inr ⟨0, rfl, rfl, rfl⟩) : e_Sn 27 13 (o_load e_okR 0 14)) t_27_14
noncomputable def n_27_10 : e_Y := u_putf 3 0 f_okA (u_old (o_putf (e_f1 3 0) e_okR 13) n_27_13) n_27_13
theorem t_27_10 : e_Sn 27 10 (e_un n_27_10) := u_putfT (fun _ => f_okA_eq) (s_putf (ty0 := ey_3) (ok := e_okR) (C := er_3) (T := et_3) (N := 5) (ref := "Plateroomprinter$Figures") (index := 9) (ci := 3) (k := 0) hq_27 ho_27 ⟨rfl, by decide, ei_3, (r_k2 (List.mem_of_getElem? (i := 15) (by decide +kernel))), .inl rfl⟩ eo_3 en_3 e_oksA (.inr ⟨rfl, rfl, rfl⟩) (by decide +kernel) rfl : e_Sn 27 10 (o_putf (e_f1 3 0) e_okR 13)) t_27_13
noncomputable def n_27_8 : e_Y := u_tab (o_newa 0 (e_I 2147483648) 10)
theorem t_27_8 : e_Sn 27 8 (e_un n_27_8) := u_tabT (s_newI r_m_1_78 hq_27 (by decide +kernel) rfl : e_Sn 27 8 (o_newa 0 (e_I 2147483648) 10))
noncomputable def n_27_5 : e_Y := u_push (.inl 2147485568) n_27_8
theorem t_27_5 : e_Sn 27 5 (e_un n_27_5) := u_pushT (s_sipush (n := (1920)) hq_27 (by decide +kernel) rfl ⟨by decide +kernel, by decide +kernel⟩ : e_Sn 27 5 (o_push (.inl 2147485568) 8)) t_27_8
noncomputable def n_27_4 : e_Y := u_ld f_okA f_l0 n_27_5
theorem t_27_4 : e_Sn 27 4 (e_un n_27_4) := u_ldAT f_l0_eq (s_aload (i := .aload_n 0) (len := 1) hq_27 (by decide +kernel) rfl (.inr ⟨0, rfl, rfl, rfl⟩) : e_Sn 27 4 (o_load e_okR 0 5)) t_27_5
noncomputable def n_27_1 : e_Y := u_tab (o_oinit 4)
theorem t_27_1 : e_Sn 27 1 (e_un n_27_1) := u_tabT (s_oinit (idx := 3) hq_27 ho_27 (r_k2 (List.mem_of_getElem? (i := 14) (by decide +kernel))) r_m_1_53 r_m_1_54 (by decide +kernel) rfl : e_Sn 27 1 (o_oinit 4))
noncomputable def n_27_0 : e_Y := u_ld f_okA f_l0 n_27_1
theorem t_27_0 : e_Sn 27 0 (e_un n_27_0) := u_ldAT f_l0_eq (s_aload (i := .aload_n 0) (len := 1) hq_27 (by decide +kernel) rfl (.inr ⟨0, rfl, rfl, rfl⟩) : e_Sn 27 0 (o_load e_okR 0 1)) t_27_1
noncomputable def e_tb_27 : e_X := (e_br 19 (e_br 4 (e_lf 0 (e_un n_27_0)) (e_br 10 (e_lf 4 (e_un n_27_4)) (e_lf 10 (e_un n_27_10)))) (e_br 27 (e_lf 19 (e_un n_27_19)) (e_br 35 (e_lf 27 (e_un n_27_27)) (e_lf 35 (e_un n_27_35)))))
theorem e_tk_27 : e_Tb 27 e_tb_27 := (e_brT (e_brT (e_lfT t_27_0) (e_brT (e_lfT t_27_4) (e_lfT t_27_10))) (e_brT (e_lfT t_27_19) (e_brT (e_lfT t_27_27) (e_lfT t_27_35))))
theorem hq_101 : (e_ml[101]?).map (·.2.1) = some prog_37_method_65_code := Eq.trans (congrArg (Option.map (fun e => e.2.1)) hy_101) rfl
theorem ho_101 : (e_ml[101]?).map (·.1.cls) = some "java/lang/Math" := Eq.trans (congrArg (Option.map (fun e => e.1.cls)) hy_101) rfl
theorem hr_101 : (e_ml[101]?).map (·.2.2.2) = some (some .int) := Eq.trans (congrArg (Option.map (fun e => e.2.2.2)) hy_101) rfl
noncomputable def n_101_10 : e_Y := u_retI
theorem t_101_10 : e_Sn 101 10 (e_un n_101_10) := u_retIT (s_iret hq_101 hr_101 (by decide +kernel) : e_Sn 101 10 (o_ret e_okI))
noncomputable def n_101_9 : e_Y := u_ld f_okI f_l1 n_101_10
theorem t_101_9 : e_Sn 101 9 (e_un n_101_9) := u_ldIT f_l1_eq (s_iload (i := .iload_n 1) (len := 1) hq_101 (by decide +kernel) rfl (.inr ⟨1, rfl, rfl, rfl⟩) : e_Sn 101 9 (o_load e_okI 1 10)) t_101_10
noncomputable def n_101_6 : e_Y := n_101_10
theorem t_101_6 : e_Sn 101 6 (e_un n_101_6) := u_gotoT (s_goto (off := (4)) hq_101 (by decide +kernel) rfl : e_Sn 101 6 (o_goto 10)) t_101_10
noncomputable def n_101_5 : e_Y := u_ld f_okI f_l0 n_101_6
theorem t_101_5 : e_Sn 101 5 (e_un n_101_5) := u_ldIT f_l0_eq (s_iload (i := .iload_n 0) (len := 1) hq_101 (by decide +kernel) rfl (.inr ⟨0, rfl, rfl, rfl⟩) : e_Sn 101 5 (o_load e_okI 0 6)) t_101_6
noncomputable def n_101_2 : e_Y := u_jmp y_ge (u_old2 (o_clt 9 5) 9 n_101_9 n_101_5) n_101_9 n_101_5
theorem t_101_2 : e_Sn 101 2 (e_un n_101_2) := u_cltT rfl (s_clt (off := (7)) hq_101 (by decide +kernel) rfl rfl : e_Sn 101 2 (o_clt 9 5)) t_101_9 t_101_5
noncomputable def n_101_1 : e_Y := u_ld f_okI f_l1 n_101_2
theorem t_101_1 : e_Sn 101 1 (e_un n_101_1) := u_ldIT f_l1_eq (s_iload (i := .iload_n 1) (len := 1) hq_101 (by decide +kernel) rfl (.inr ⟨1, rfl, rfl, rfl⟩) : e_Sn 101 1 (o_load e_okI 1 2)) t_101_2
noncomputable def n_101_0 : e_Y := u_ld f_okI f_l0 n_101_1
theorem t_101_0 : e_Sn 101 0 (e_un n_101_0) := u_ldIT f_l0_eq (s_iload (i := .iload_n 0) (len := 1) hq_101 (by decide +kernel) rfl (.inr ⟨0, rfl, rfl, rfl⟩) : e_Sn 101 0 (o_load e_okI 0 1)) t_101_1
noncomputable def e_tb_101 : e_X := (e_lf 0 (e_un n_101_0))
theorem e_tk_101 : e_Tb 101 e_tb_101 := (e_lfT t_101_0)
theorem hq_29 : (e_ml[29]?).map (·.2.1) = some prog_5_method_1_code := Eq.trans (congrArg (Option.map (fun e => e.2.1)) hy_29) rfl
theorem ho_29 : (e_ml[29]?).map (·.1.cls) = some "Plateroomprinter$Items" := Eq.trans (congrArg (Option.map (fun e => e.1.cls)) hy_29) rfl
theorem hr_29 : (e_ml[29]?).map (·.2.2.2) = some none := Eq.trans (congrArg (Option.map (fun e => e.2.2.2)) hy_29) rfl
noncomputable def n_29_48 : e_Y := u_retV
theorem t_29_48 : e_Sn 29 48 (e_un n_29_48) := u_retVT (s_vret hq_29 hr_29 (by decide +kernel) : e_Sn 29 48 (o_retv))
noncomputable def n_29_45 : e_Y := u_putf 4 4 f_okI (u_old (o_putf (e_f1 4 4) e_okI 48) n_29_48) n_29_48
theorem t_29_45 : e_Sn 29 45 (e_un n_29_45) := u_putfT (fun _ => f_okI_eq) (s_putf (ty0 := ey_4) (ok := e_okI) (C := er_4) (T := et_4) (N := 5) (ref := "Plateroomprinter$Items") (index := 31) (ci := 4) (k := 4) hq_29 ho_29 ⟨rfl, by decide, ei_4, r_m_1_98, .inl rfl⟩ eo_4 en_4 e_oksI (.inl rfl) (by decide +kernel) rfl : e_Sn 29 45 (o_putf (e_f1 4 4) e_okI 48)) t_29_48
noncomputable def n_29_44 : e_Y := u_push (.inl 2147483648) n_29_45
theorem t_29_44 : e_Sn 29 44 (e_un n_29_44) := u_pushT (s_iconst (n := (0)) hq_29 (by decide +kernel) rfl ⟨by decide +kernel, by decide +kernel⟩ : e_Sn 29 44 (o_push (.inl 2147483648) 45)) t_29_45
noncomputable def n_29_43 : e_Y := u_ld f_okA f_l0 n_29_44
theorem t_29_43 : e_Sn 29 43 (e_un n_29_43) := u_ldAT f_l0_eq (s_aload (i := .aload_n 0) (len := 1) hq_29 (by decide +kernel) rfl (.inr ⟨0, rfl, rfl, rfl⟩) : e_Sn 29 43 (o_load e_okR 0 44)) t_29_44
noncomputable def n_29_40 : e_Y := u_putf 4 3 f_okA (u_old (o_putf (e_f1 4 3) e_okR 43) n_29_43) n_29_43
theorem t_29_40 : e_Sn 29 40 (e_un n_29_40) := u_putfT (fun _ => f_okA_eq) (s_putf (ty0 := ey_4) (ok := e_okR) (C := er_4) (T := et_4) (N := 5) (ref := "Plateroomprinter$Items") (index := 28) (ci := 4) (k := 3) hq_29 ho_29 ⟨rfl, by decide, ei_4, r_m_1_97, .inl rfl⟩ eo_4 en_4 e_oksA (.inr ⟨rfl, rfl, rfl⟩) (by decide +kernel) rfl : e_Sn 29 40 (o_putf (e_f1 4 3) e_okR 43)) t_29_43
noncomputable def n_29_38 : e_Y := u_tab (o_newa 0 (e_I 2147483648) 40)
theorem t_29_38 : e_Sn 29 38 (e_un n_29_38) := u_tabT (s_newI r_m_1_78 hq_29 (by decide +kernel) rfl : e_Sn 29 38 (o_newa 0 (e_I 2147483648) 40))
noncomputable def n_29_35 : e_Y := u_getf 4 0 (u_old (o_getf (e_f1 4 0) 38) n_29_38) n_29_38
theorem t_29_35 : e_Sn 29 35 (e_un n_29_35) := u_getfT (s_getf (C := er_4) (T := et_4) (N := 5) (ref := "Plateroomprinter$Items") (index := 15) (ci := 4) (k := 0) hq_29 ho_29 ⟨rfl, by decide, ei_4, r_m_1_94, .inl rfl⟩ (by decide +kernel) rfl : e_Sn 29 35 (o_getf (e_f1 4 0) 38)) t_29_38
noncomputable def n_29_34 : e_Y := u_ld f_okA f_l0 n_29_35
theorem t_29_34 : e_Sn 29 34 (e_un n_29_34) := u_ldAT f_l0_eq (s_aload (i := .aload_n 0) (len := 1) hq_29 (by decide +kernel) rfl (.inr ⟨0, rfl, rfl, rfl⟩) : e_Sn 29 34 (o_load e_okR 0 35)) t_29_35
noncomputable def n_29_33 : e_Y := u_ld f_okA f_l0 n_29_34
theorem t_29_33 : e_Sn 29 33 (e_un n_29_33) := u_ldAT f_l0_eq (s_aload (i := .aload_n 0) (len := 1) hq_29 (by decide +kernel) rfl (.inr ⟨0, rfl, rfl, rfl⟩) : e_Sn 29 33 (o_load e_okR 0 34)) t_29_34
noncomputable def n_29_30 : e_Y := u_putf 4 2 f_okA (u_old (o_putf (e_f1 4 2) e_okR 33) n_29_33) n_29_33
theorem t_29_30 : e_Sn 29 30 (e_un n_29_30) := u_putfT (fun _ => f_okA_eq) (s_putf (ty0 := ey_4) (ok := e_okR) (C := er_4) (T := et_4) (N := 5) (ref := "Plateroomprinter$Items") (index := 25) (ci := 4) (k := 2) hq_29 ho_29 ⟨rfl, by decide, ei_4, r_m_1_96, .inl rfl⟩ eo_4 en_4 e_oksA (.inr ⟨rfl, rfl, rfl⟩) (by decide +kernel) rfl : e_Sn 29 30 (o_putf (e_f1 4 2) e_okR 33)) t_29_33
noncomputable def n_29_28 : e_Y := u_tab (o_newa 0 (e_I 2147483648) 30)
theorem t_29_28 : e_Sn 29 28 (e_un n_29_28) := u_tabT (s_newI r_m_1_78 hq_29 (by decide +kernel) rfl : e_Sn 29 28 (o_newa 0 (e_I 2147483648) 30))
noncomputable def n_29_25 : e_Y := u_getf 4 0 (u_old (o_getf (e_f1 4 0) 28) n_29_28) n_29_28
theorem t_29_25 : e_Sn 29 25 (e_un n_29_25) := u_getfT (s_getf (C := er_4) (T := et_4) (N := 5) (ref := "Plateroomprinter$Items") (index := 15) (ci := 4) (k := 0) hq_29 ho_29 ⟨rfl, by decide, ei_4, r_m_1_94, .inl rfl⟩ (by decide +kernel) rfl : e_Sn 29 25 (o_getf (e_f1 4 0) 28)) t_29_28
noncomputable def n_29_24 : e_Y := u_ld f_okA f_l0 n_29_25
theorem t_29_24 : e_Sn 29 24 (e_un n_29_24) := u_ldAT f_l0_eq (s_aload (i := .aload_n 0) (len := 1) hq_29 (by decide +kernel) rfl (.inr ⟨0, rfl, rfl, rfl⟩) : e_Sn 29 24 (o_load e_okR 0 25)) t_29_25
noncomputable def n_29_23 : e_Y := u_ld f_okA f_l0 n_29_24
theorem t_29_23 : e_Sn 29 23 (e_un n_29_23) := u_ldAT f_l0_eq (s_aload (i := .aload_n 0) (len := 1) hq_29 (by decide +kernel) rfl (.inr ⟨0, rfl, rfl, rfl⟩) : e_Sn 29 23 (o_load e_okR 0 24)) t_29_24
noncomputable def n_29_20 : e_Y := u_putf 4 1 f_okA (u_old (o_putf (e_f1 4 1) e_okR 23) n_29_23) n_29_23
theorem t_29_20 : e_Sn 29 20 (e_un n_29_20) := u_putfT (fun _ => f_okA_eq) (s_putf (ty0 := ey_4) (ok := e_okR) (C := er_4) (T := et_4) (N := 5) (ref := "Plateroomprinter$Items") (index := 21) (ci := 4) (k := 1) hq_29 ho_29 ⟨rfl, by decide, ei_4, r_m_1_95, .inl rfl⟩ eo_4 en_4 e_oksA (.inr ⟨rfl, rfl, rfl⟩) (by decide +kernel) rfl : e_Sn 29 20 (o_putf (e_f1 4 1) e_okR 23)) t_29_23
noncomputable def n_29_18 : e_Y := u_tab (o_newa 0 (e_I 2147483648) 20)
theorem t_29_18 : e_Sn 29 18 (e_un n_29_18) := u_tabT (s_newI r_m_1_78 hq_29 (by decide +kernel) rfl : e_Sn 29 18 (o_newa 0 (e_I 2147483648) 20))
noncomputable def n_29_15 : e_Y := u_getf 4 0 (u_old (o_getf (e_f1 4 0) 18) n_29_18) n_29_18
theorem t_29_15 : e_Sn 29 15 (e_un n_29_15) := u_getfT (s_getf (C := er_4) (T := et_4) (N := 5) (ref := "Plateroomprinter$Items") (index := 15) (ci := 4) (k := 0) hq_29 ho_29 ⟨rfl, by decide, ei_4, r_m_1_94, .inl rfl⟩ (by decide +kernel) rfl : e_Sn 29 15 (o_getf (e_f1 4 0) 18)) t_29_18
noncomputable def n_29_14 : e_Y := u_ld f_okA f_l0 n_29_15
theorem t_29_14 : e_Sn 29 14 (e_un n_29_14) := u_ldAT f_l0_eq (s_aload (i := .aload_n 0) (len := 1) hq_29 (by decide +kernel) rfl (.inr ⟨0, rfl, rfl, rfl⟩) : e_Sn 29 14 (o_load e_okR 0 15)) t_29_15
noncomputable def n_29_13 : e_Y := u_ld f_okA f_l0 n_29_14
theorem t_29_13 : e_Sn 29 13 (e_un n_29_13) := u_ldAT f_l0_eq (s_aload (i := .aload_n 0) (len := 1) hq_29 (by decide +kernel) rfl (.inr ⟨0, rfl, rfl, rfl⟩) : e_Sn 29 13 (o_load e_okR 0 14)) t_29_14
noncomputable def n_29_10 : e_Y := u_putf 4 0 f_okI (u_old (o_putf (e_f1 4 0) e_okI 13) n_29_13) n_29_13
theorem t_29_10 : e_Sn 29 10 (e_un n_29_10) := u_putfT (fun _ => f_okI_eq) (s_putf (ty0 := ey_4) (ok := e_okI) (C := er_4) (T := et_4) (N := 5) (ref := "Plateroomprinter$Items") (index := 15) (ci := 4) (k := 0) hq_29 ho_29 ⟨rfl, by decide, ei_4, r_m_1_94, .inl rfl⟩ eo_4 en_4 e_oksI (.inr ⟨rfl, rfl, rfl⟩) (by decide +kernel) rfl : e_Sn 29 10 (o_putf (e_f1 4 0) e_okI 13)) t_29_13
noncomputable def n_29_7 : e_Y := u_tab (o_mmax 10)
theorem t_29_7 : e_Sn 29 7 (e_un n_29_7) := u_tabT (s_mmax (index := 9) hq_29 ho_29 r_m_1_91 r_m_1_92 r_m_1_5 r_m_1_93 (by decide +kernel) rfl : e_Sn 29 7 (o_mmax 10))
noncomputable def n_29_6 : e_Y := u_ld f_okI f_l1 n_29_7
theorem t_29_6 : e_Sn 29 6 (e_un n_29_6) := u_ldIT f_l1_eq (s_iload (i := .iload_n 1) (len := 1) hq_29 (by decide +kernel) rfl (.inr ⟨1, rfl, rfl, rfl⟩) : e_Sn 29 6 (o_load e_okI 1 7)) t_29_7
noncomputable def n_29_5 : e_Y := u_push (.inl 2147483648) n_29_6
theorem t_29_5 : e_Sn 29 5 (e_un n_29_5) := u_pushT (s_iconst (n := (0)) hq_29 (by decide +kernel) rfl ⟨by decide +kernel, by decide +kernel⟩ : e_Sn 29 5 (o_push (.inl 2147483648) 6)) t_29_6
noncomputable def n_29_4 : e_Y := u_ld f_okA f_l0 n_29_5
theorem t_29_4 : e_Sn 29 4 (e_un n_29_4) := u_ldAT f_l0_eq (s_aload (i := .aload_n 0) (len := 1) hq_29 (by decide +kernel) rfl (.inr ⟨0, rfl, rfl, rfl⟩) : e_Sn 29 4 (o_load e_okR 0 5)) t_29_5
noncomputable def n_29_1 : e_Y := u_tab (o_oinit 4)
theorem t_29_1 : e_Sn 29 1 (e_un n_29_1) := u_tabT (s_oinit (idx := 3) hq_29 ho_29 (r_k1 (List.mem_of_getElem? (i := 90) (by decide +kernel))) r_m_1_53 r_m_1_54 (by decide +kernel) rfl : e_Sn 29 1 (o_oinit 4))
noncomputable def n_29_0 : e_Y := u_ld f_okA f_l0 n_29_1
theorem t_29_0 : e_Sn 29 0 (e_un n_29_0) := u_ldAT f_l0_eq (s_aload (i := .aload_n 0) (len := 1) hq_29 (by decide +kernel) rfl (.inr ⟨0, rfl, rfl, rfl⟩) : e_Sn 29 0 (o_load e_okR 0 1)) t_29_1
noncomputable def e_tb_29 : e_X := (e_br 20 (e_br 4 (e_lf 0 (e_un n_29_0)) (e_br 10 (e_lf 4 (e_un n_29_4)) (e_lf 10 (e_un n_29_10)))) (e_br 30 (e_lf 20 (e_un n_29_20)) (e_br 40 (e_lf 30 (e_un n_29_30)) (e_lf 40 (e_un n_29_40)))))
theorem e_tk_29 : e_Tb 29 e_tb_29 := (e_brT (e_brT (e_lfT t_29_0) (e_brT (e_lfT t_29_4) (e_lfT t_29_10))) (e_brT (e_lfT t_29_20) (e_brT (e_lfT t_29_30) (e_lfT t_29_40))))
theorem hq_37 : (e_ml[37]?).map (·.2.1) = some prog_6_method_1_code := Eq.trans (congrArg (Option.map (fun e => e.2.1)) hy_37) rfl
theorem ho_37 : (e_ml[37]?).map (·.1.cls) = some "Plateroomprinter$Matrix" := Eq.trans (congrArg (Option.map (fun e => e.1.cls)) hy_37) rfl
theorem hr_37 : (e_ml[37]?).map (·.2.2.2) = some none := Eq.trans (congrArg (Option.map (fun e => e.2.2.2)) hy_37) rfl
noncomputable def n_37_20 : e_Y := u_retV
theorem t_37_20 : e_Sn 37 20 (e_un n_37_20) := u_retVT (s_vret hq_37 hr_37 (by decide +kernel) : e_Sn 37 20 (o_retv))
noncomputable def n_37_17 : e_Y := u_putf 5 1 f_okA (u_old (o_putf (e_f1 5 1) e_okR 20) n_37_20) n_37_20
theorem t_37_17 : e_Sn 37 17 (e_un n_37_17) := u_putfT (fun _ => f_okA_eq) (s_putf (ty0 := ey_5) (ok := e_okR) (C := er_5) (T := et_5) (N := 5) (ref := "Plateroomprinter$Matrix") (index := 15) (ci := 5) (k := 1) hq_37 ho_37 ⟨rfl, by decide, ei_5, r_m_1_126, .inl rfl⟩ eo_5 en_5 e_oksA (.inr ⟨rfl, rfl, rfl⟩) (by decide +kernel) rfl : e_Sn 37 17 (o_putf (e_f1 5 1) e_okR 20)) t_37_20
noncomputable def n_37_15 : e_Y := u_tab (o_newa 2 (e_L 9223372036854775808) 17)
theorem t_37_15 : e_Sn 37 15 (e_un n_37_15) := u_tabT (s_newJ r_m_1_142 hq_37 (by decide +kernel) rfl : e_Sn 37 15 (o_newa 2 (e_L 9223372036854775808) 17))
noncomputable def n_37_13 : e_Y := u_push (.inl 2147483654) n_37_15
theorem t_37_13 : e_Sn 37 13 (e_un n_37_13) := u_pushT (s_bipush (n := (6)) hq_37 (by decide +kernel) rfl ⟨by decide +kernel, by decide +kernel⟩ : e_Sn 37 13 (o_push (.inl 2147483654) 15)) t_37_15
noncomputable def n_37_12 : e_Y := u_ld f_okA f_l0 n_37_13
theorem t_37_12 : e_Sn 37 12 (e_un n_37_12) := u_ldAT f_l0_eq (s_aload (i := .aload_n 0) (len := 1) hq_37 (by decide +kernel) rfl (.inr ⟨0, rfl, rfl, rfl⟩) : e_Sn 37 12 (o_load e_okR 0 13)) t_37_13
noncomputable def n_37_9 : e_Y := u_putf 5 0 f_okA (u_old (o_putf (e_f1 5 0) e_okR 12) n_37_12) n_37_12
theorem t_37_9 : e_Sn 37 9 (e_un n_37_9) := u_putfT (fun _ => f_okA_eq) (s_putf (ty0 := ey_5) (ok := e_okR) (C := er_5) (T := et_5) (N := 5) (ref := "Plateroomprinter$Matrix") (index := 9) (ci := 5) (k := 0) hq_37 ho_37 ⟨rfl, by decide, ei_5, r_m_1_124, .inl rfl⟩ eo_5 en_5 e_oksA (.inr ⟨rfl, rfl, rfl⟩) (by decide +kernel) rfl : e_Sn 37 9 (o_putf (e_f1 5 0) e_okR 12)) t_37_12
noncomputable def n_37_7 : e_Y := u_tab (o_newa 2 (e_L 9223372036854775808) 9)
theorem t_37_7 : e_Sn 37 7 (e_un n_37_7) := u_tabT (s_newJ r_m_1_142 hq_37 (by decide +kernel) rfl : e_Sn 37 7 (o_newa 2 (e_L 9223372036854775808) 9))
noncomputable def n_37_5 : e_Y := u_push (.inl 2147483654) n_37_7
theorem t_37_5 : e_Sn 37 5 (e_un n_37_5) := u_pushT (s_bipush (n := (6)) hq_37 (by decide +kernel) rfl ⟨by decide +kernel, by decide +kernel⟩ : e_Sn 37 5 (o_push (.inl 2147483654) 7)) t_37_7
noncomputable def n_37_4 : e_Y := u_ld f_okA f_l0 n_37_5
theorem t_37_4 : e_Sn 37 4 (e_un n_37_4) := u_ldAT f_l0_eq (s_aload (i := .aload_n 0) (len := 1) hq_37 (by decide +kernel) rfl (.inr ⟨0, rfl, rfl, rfl⟩) : e_Sn 37 4 (o_load e_okR 0 5)) t_37_5
noncomputable def n_37_1 : e_Y := u_tab (o_oinit 4)
theorem t_37_1 : e_Sn 37 1 (e_un n_37_1) := u_tabT (s_oinit (idx := 3) hq_37 ho_37 (r_k1 (List.mem_of_getElem? (i := 123) (by decide +kernel))) r_m_1_53 r_m_1_54 (by decide +kernel) rfl : e_Sn 37 1 (o_oinit 4))
noncomputable def n_37_0 : e_Y := u_ld f_okA f_l0 n_37_1
theorem t_37_0 : e_Sn 37 0 (e_un n_37_0) := u_ldAT f_l0_eq (s_aload (i := .aload_n 0) (len := 1) hq_37 (by decide +kernel) rfl (.inr ⟨0, rfl, rfl, rfl⟩) : e_Sn 37 0 (o_load e_okR 0 1)) t_37_1
noncomputable def e_tb_37 : e_X := (e_br 9 (e_br 4 (e_lf 0 (e_un n_37_0)) (e_lf 4 (e_un n_37_4))) (e_br 17 (e_lf 9 (e_un n_37_9)) (e_lf 17 (e_un n_37_17))))
theorem e_tk_37 : e_Tb 37 e_tb_37 := (e_brT (e_brT (e_lfT t_37_0) (e_lfT t_37_4)) (e_brT (e_lfT t_37_9) (e_lfT t_37_17)))
theorem hq_51 : (e_ml[51]?).map (·.2.1) = some prog_11_method_1_code := Eq.trans (congrArg (Option.map (fun e => e.2.1)) hy_51) rfl
theorem ho_51 : (e_ml[51]?).map (·.1.cls) = some "Plateroomprinter$State" := Eq.trans (congrArg (Option.map (fun e => e.1.cls)) hy_51) rfl
theorem hr_51 : (e_ml[51]?).map (·.2.2.2) = some none := Eq.trans (congrArg (Option.map (fun e => e.2.2.2)) hy_51) rfl
noncomputable def n_51_41 : e_Y := u_retV
theorem t_51_41 : e_Sn 51 41 (e_un n_51_41) := u_retVT (s_vret hq_51 hr_51 (by decide +kernel) : e_Sn 51 41 (o_retv))
noncomputable def n_51_38 : e_Y := u_putf 10 3 f_okA (u_old (o_putf (e_f1 10 3) e_okR 41) n_51_41) n_51_41
theorem t_51_38 : e_Sn 51 38 (e_un n_51_38) := u_putfT (fun _ => f_okA_eq) (s_putf (ty0 := ey_10) (ok := e_okR) (C := er_10) (T := et_10) (N := 11) (ref := "Plateroomprinter$State") (index := 29) (ci := 10) (k := 3) hq_51 ho_51 ⟨rfl, by decide, ei_10, r_m_1_188, .inl rfl⟩ eo_10 en_10 e_oksA (.inr ⟨rfl, rfl, rfl⟩) (by decide +kernel) rfl : e_Sn 51 38 (o_putf (e_f1 10 3) e_okR 41)) t_51_41
noncomputable def n_51_36 : e_Y := u_tab (o_newa 0 (e_I 2147483648) 38)
theorem t_51_36 : e_Sn 51 36 (e_un n_51_36) := u_tabT (s_newI r_m_1_78 hq_51 (by decide +kernel) rfl : e_Sn 51 36 (o_newa 0 (e_I 2147483648) 38))
noncomputable def n_51_35 : e_Y := u_push (.inl 2147483652) n_51_36
theorem t_51_35 : e_Sn 51 35 (e_un n_51_35) := u_pushT (s_iconst (n := (4)) hq_51 (by decide +kernel) rfl ⟨by decide +kernel, by decide +kernel⟩ : e_Sn 51 35 (o_push (.inl 2147483652) 36)) t_51_36
noncomputable def n_51_34 : e_Y := u_ld f_okA f_l0 n_51_35
theorem t_51_34 : e_Sn 51 34 (e_un n_51_34) := u_ldAT f_l0_eq (s_aload (i := .aload_n 0) (len := 1) hq_51 (by decide +kernel) rfl (.inr ⟨0, rfl, rfl, rfl⟩) : e_Sn 51 34 (o_load e_okR 0 35)) t_51_35
noncomputable def n_51_31 : e_Y := u_putf 10 2 f_okA (u_old (o_putf (e_f1 10 2) e_okR 34) n_51_34) n_51_34
theorem t_51_31 : e_Sn 51 31 (e_un n_51_31) := u_putfT (fun _ => f_okA_eq) (s_putf (ty0 := ey_10) (ok := e_okR) (C := er_10) (T := et_10) (N := 11) (ref := "Plateroomprinter$State") (index := 25) (ci := 10) (k := 2) hq_51 ho_51 ⟨rfl, by decide, ei_10, r_m_1_185, .inl rfl⟩ eo_10 en_10 e_oksA (.inr ⟨rfl, rfl, rfl⟩) (by decide +kernel) rfl : e_Sn 51 31 (o_putf (e_f1 10 2) e_okR 34)) t_51_34
noncomputable def n_51_29 : e_Y := u_tab (o_newa 0 (e_I 2147483648) 31)
theorem t_51_29 : e_Sn 51 29 (e_un n_51_29) := u_tabT (s_newI r_m_1_78 hq_51 (by decide +kernel) rfl : e_Sn 51 29 (o_newa 0 (e_I 2147483648) 31))
noncomputable def n_51_27 : e_Y := u_push (.inl 2147483680) n_51_29
theorem t_51_27 : e_Sn 51 27 (e_un n_51_27) := u_pushT (s_bipush (n := (32)) hq_51 (by decide +kernel) rfl ⟨by decide +kernel, by decide +kernel⟩ : e_Sn 51 27 (o_push (.inl 2147483680) 29)) t_51_29
noncomputable def n_51_26 : e_Y := u_ld f_okA f_l0 n_51_27
theorem t_51_26 : e_Sn 51 26 (e_un n_51_26) := u_ldAT f_l0_eq (s_aload (i := .aload_n 0) (len := 1) hq_51 (by decide +kernel) rfl (.inr ⟨0, rfl, rfl, rfl⟩) : e_Sn 51 26 (o_load e_okR 0 27)) t_51_27
noncomputable def n_51_23 : e_Y := u_putf 10 1 f_okA (u_old (o_putf (e_f1 10 1) e_okR 26) n_51_26) n_51_26
theorem t_51_23 : e_Sn 51 23 (e_un n_51_23) := u_putfT (fun _ => f_okA_eq) (s_putf (ty0 := ey_10) (ok := e_okR) (C := er_10) (T := et_10) (N := 11) (ref := "Plateroomprinter$State") (index := 21) (ci := 10) (k := 1) hq_51 ho_51 ⟨rfl, by decide, ei_10, r_m_1_182, .inl rfl⟩ eo_10 en_10 e_oksR (.inr ⟨rfl, rfl, rfl⟩) (by decide +kernel) rfl : e_Sn 51 23 (o_putf (e_f1 10 1) e_okR 26)) t_51_26
noncomputable def n_51_20 : e_Y := u_callI 44 1 20 1 n_44_0 n_51_23
theorem t_51_20 : e_Sn 51 20 (e_un n_51_20) := u_callIT rfl (s_callIN (host := "Plateroomprinter") (index := 20) hq_51 ho_51 hy_44 hp_44 hc_44 hi_44 hd_44 (r_k1 (List.mem_of_getElem? (i := 145) (by decide +kernel))) rfl rfl hs_44 (by decide +kernel) rfl : e_Sn 51 20 (o_callI 44 1 1 23)) t_44_0 t_51_23
noncomputable def n_51_19 : e_Y := u_old (o_dup 20) n_51_20
theorem t_51_19 : e_Sn 51 19 (e_un n_51_19) := u_oldT (s_dup hq_51 (by decide +kernel) rfl : e_Sn 51 19 (o_dup 20)) t_51_20 e_cg_dup
noncomputable def n_51_16 : e_Y := u_tab (o_new 7 6 ef_7 19)
theorem t_51_16 : e_Sn 51 16 (e_un n_51_16) := u_tabT (s_new (index := 18) (ci := 7) (N := 6) (C := er_7) (T := et_7) (ty0 := ey_7) (fv := eg_7) hq_51 ho_51 rfl ei_7 eo_7 (r_k1 (List.mem_of_getElem? (i := 143) (by decide +kernel))) r_m_1_144 r_m_1_8 eh_7 rfl (e_newrel ek_7) (by decide +kernel) rfl : e_Sn 51 16 (o_new 7 6 ef_7 19))
noncomputable def n_51_15 : e_Y := u_ld f_okA f_l0 n_51_16
theorem t_51_15 : e_Sn 51 15 (e_un n_51_15) := u_ldAT f_l0_eq (s_aload (i := .aload_n 0) (len := 1) hq_51 (by decide +kernel) rfl (.inr ⟨0, rfl, rfl, rfl⟩) : e_Sn 51 15 (o_load e_okR 0 16)) t_51_16
noncomputable def n_51_12 : e_Y := u_putf 10 0 f_okA (u_old (o_putf (e_f1 10 0) e_okR 15) n_51_15) n_51_15
theorem t_51_12 : e_Sn 51 12 (e_un n_51_12) := u_putfT (fun _ => f_okA_eq) (s_putf (ty0 := ey_10) (ok := e_okR) (C := er_10) (T := et_10) (N := 11) (ref := "Plateroomprinter$State") (index := 12) (ci := 10) (k := 0) hq_51 ho_51 ⟨rfl, by decide, ei_10, r_m_1_179, .inl rfl⟩ eo_10 en_10 e_oksR (.inr ⟨rfl, rfl, rfl⟩) (by decide +kernel) rfl : e_Sn 51 12 (o_putf (e_f1 10 0) e_okR 15)) t_51_15
noncomputable def n_51_9 : e_Y := u_callI 37 1 20 1 n_37_0 n_51_12
theorem t_51_9 : e_Sn 51 9 (e_un n_51_9) := u_callIT rfl (s_callIN (host := "Plateroomprinter") (index := 11) hq_51 ho_51 hy_37 hp_37 hc_37 hi_37 hd_37 (r_k1 (List.mem_of_getElem? (i := 120) (by decide +kernel))) rfl rfl hs_37 (by decide +kernel) rfl : e_Sn 51 9 (o_callI 37 1 1 12)) t_37_0 t_51_12
noncomputable def n_51_8 : e_Y := u_old (o_dup 9) n_51_9
theorem t_51_8 : e_Sn 51 8 (e_un n_51_8) := u_oldT (s_dup hq_51 (by decide +kernel) rfl : e_Sn 51 8 (o_dup 9)) t_51_9 e_cg_dup
noncomputable def n_51_5 : e_Y := u_tab (o_new 5 5 ef_5 8)
theorem t_51_5 : e_Sn 51 5 (e_un n_51_5) := u_tabT (s_new (index := 9) (ci := 5) (N := 5) (C := er_5) (T := et_5) (ty0 := ey_5) (fv := eg_5) hq_51 ho_51 rfl ei_5 eo_5 (r_k1 (List.mem_of_getElem? (i := 118) (by decide +kernel))) (r_k1 (List.mem_of_getElem? (i := 119) (by decide +kernel))) r_m_1_7 eh_5 rfl (e_newrel ek_5) (by decide +kernel) rfl : e_Sn 51 5 (o_new 5 5 ef_5 8))
noncomputable def n_51_4 : e_Y := u_ld f_okA f_l0 n_51_5
theorem t_51_4 : e_Sn 51 4 (e_un n_51_4) := u_ldAT f_l0_eq (s_aload (i := .aload_n 0) (len := 1) hq_51 (by decide +kernel) rfl (.inr ⟨0, rfl, rfl, rfl⟩) : e_Sn 51 4 (o_load e_okR 0 5)) t_51_5
noncomputable def n_51_1 : e_Y := u_tab (o_oinit 4)
theorem t_51_1 : e_Sn 51 1 (e_un n_51_1) := u_tabT (s_oinit (idx := 3) hq_51 ho_51 (r_k1 (List.mem_of_getElem? (i := 117) (by decide +kernel))) r_m_1_53 r_m_1_54 (by decide +kernel) rfl : e_Sn 51 1 (o_oinit 4))
noncomputable def n_51_0 : e_Y := u_ld f_okA f_l0 n_51_1
theorem t_51_0 : e_Sn 51 0 (e_un n_51_0) := u_ldAT f_l0_eq (s_aload (i := .aload_n 0) (len := 1) hq_51 (by decide +kernel) rfl (.inr ⟨0, rfl, rfl, rfl⟩) : e_Sn 51 0 (o_load e_okR 0 1)) t_51_1
noncomputable def e_tb_51 : e_X := (e_br 19 (e_br 4 (e_lf 0 (e_un n_51_0)) (e_br 8 (e_lf 4 (e_un n_51_4)) (e_lf 8 (e_un n_51_8)))) (e_br 31 (e_lf 19 (e_un n_51_19)) (e_br 38 (e_lf 31 (e_un n_51_31)) (e_lf 38 (e_un n_51_38)))))
theorem e_tk_51 : e_Tb 51 e_tb_51 := (e_brT (e_brT (e_lfT t_51_0) (e_brT (e_lfT t_51_4) (e_lfT t_51_8))) (e_brT (e_lfT t_51_19) (e_brT (e_lfT t_51_31) (e_lfT t_51_38))))
theorem hq_36 : (e_ml[36]?).map (·.2.1) = some prog_5_method_4_code := Eq.trans (congrArg (Option.map (fun e => e.2.1)) hy_36) rfl
theorem ho_36 : (e_ml[36]?).map (·.1.cls) = some "Plateroomprinter$Items" := Eq.trans (congrArg (Option.map (fun e => e.1.cls)) hy_36) rfl
theorem hr_36 : (e_ml[36]?).map (·.2.2.2) = some none := Eq.trans (congrArg (Option.map (fun e => e.2.2.2)) hy_36) rfl
noncomputable def n_36_34 : e_Y := u_retV
theorem t_36_34 : e_Sn 36 34 (e_un n_36_34) := u_retVT (s_vret hq_36 hr_36 (by decide +kernel) : e_Sn 36 34 (o_retv))
noncomputable def n_36_33 : e_Y := u_ast 0 f_okI (u_old (o_ast 0 e_okI 34) n_36_34) n_36_34
theorem t_36_33 : e_Sn 36 33 (e_un n_36_33) := u_astT (fun _ => f_okI_eq) (s_iast hq_36 (by decide +kernel) rfl : e_Sn 36 33 (o_ast 0 e_okI 34)) t_36_34
noncomputable def n_36_31 : e_Y := u_ld f_okI f_l4 n_36_33
theorem t_36_31 : e_Sn 36 31 (e_un n_36_31) := u_ldIT f_l4_eq (s_iload (i := .iload 4) (len := 2) hq_36 (by decide +kernel) rfl (.inl ⟨rfl, rfl⟩) : e_Sn 36 31 (o_load e_okI 4 33)) t_36_33
noncomputable def n_36_30 : e_Y := u_ld f_okI f_l1 n_36_31
theorem t_36_30 : e_Sn 36 30 (e_un n_36_30) := u_ldIT f_l1_eq (s_iload (i := .iload_n 1) (len := 1) hq_36 (by decide +kernel) rfl (.inr ⟨1, rfl, rfl, rfl⟩) : e_Sn 36 30 (o_load e_okI 1 31)) t_36_31
noncomputable def n_36_27 : e_Y := u_getf 4 3 (u_old (o_getf (e_f1 4 3) 30) n_36_30) n_36_30
theorem t_36_27 : e_Sn 36 27 (e_un n_36_27) := u_getfT (s_getf (C := er_4) (T := et_4) (N := 5) (ref := "Plateroomprinter$Items") (index := 28) (ci := 4) (k := 3) hq_36 ho_36 ⟨rfl, by decide, ei_4, r_m_1_97, .inl rfl⟩ (by decide +kernel) rfl : e_Sn 36 27 (o_getf (e_f1 4 3) 30)) t_36_30
noncomputable def n_36_26 : e_Y := u_ld f_okA f_l0 n_36_27
theorem t_36_26 : e_Sn 36 26 (e_un n_36_26) := u_ldAT f_l0_eq (s_aload (i := .aload_n 0) (len := 1) hq_36 (by decide +kernel) rfl (.inr ⟨0, rfl, rfl, rfl⟩) : e_Sn 36 26 (o_load e_okR 0 27)) t_36_27
noncomputable def n_36_25 : e_Y := u_ast 0 f_okI (u_old (o_ast 0 e_okI 26) n_36_26) n_36_26
theorem t_36_25 : e_Sn 36 25 (e_un n_36_25) := u_astT (fun _ => f_okI_eq) (s_iast hq_36 (by decide +kernel) rfl : e_Sn 36 25 (o_ast 0 e_okI 26)) t_36_26
noncomputable def n_36_24 : e_Y := u_ld f_okI f_l3 n_36_25
theorem t_36_24 : e_Sn 36 24 (e_un n_36_24) := u_ldIT f_l3_eq (s_iload (i := .iload_n 3) (len := 1) hq_36 (by decide +kernel) rfl (.inr ⟨3, rfl, rfl, rfl⟩) : e_Sn 36 24 (o_load e_okI 3 25)) t_36_25
noncomputable def n_36_23 : e_Y := u_ld f_okI f_l1 n_36_24
theorem t_36_23 : e_Sn 36 23 (e_un n_36_23) := u_ldIT f_l1_eq (s_iload (i := .iload_n 1) (len := 1) hq_36 (by decide +kernel) rfl (.inr ⟨1, rfl, rfl, rfl⟩) : e_Sn 36 23 (o_load e_okI 1 24)) t_36_24
noncomputable def n_36_20 : e_Y := u_getf 4 2 (u_old (o_getf (e_f1 4 2) 23) n_36_23) n_36_23
theorem t_36_20 : e_Sn 36 20 (e_un n_36_20) := u_getfT (s_getf (C := er_4) (T := et_4) (N := 5) (ref := "Plateroomprinter$Items") (index := 25) (ci := 4) (k := 2) hq_36 ho_36 ⟨rfl, by decide, ei_4, r_m_1_96, .inl rfl⟩ (by decide +kernel) rfl : e_Sn 36 20 (o_getf (e_f1 4 2) 23)) t_36_23
noncomputable def n_36_19 : e_Y := u_ld f_okA f_l0 n_36_20
theorem t_36_19 : e_Sn 36 19 (e_un n_36_19) := u_ldAT f_l0_eq (s_aload (i := .aload_n 0) (len := 1) hq_36 (by decide +kernel) rfl (.inr ⟨0, rfl, rfl, rfl⟩) : e_Sn 36 19 (o_load e_okR 0 20)) t_36_20
noncomputable def n_36_18 : e_Y := u_ast 0 f_okI (u_old (o_ast 0 e_okI 19) n_36_19) n_36_19
theorem t_36_18 : e_Sn 36 18 (e_un n_36_18) := u_astT (fun _ => f_okI_eq) (s_iast hq_36 (by decide +kernel) rfl : e_Sn 36 18 (o_ast 0 e_okI 19)) t_36_19
noncomputable def n_36_17 : e_Y := u_ld f_okI f_l2 n_36_18
theorem t_36_17 : e_Sn 36 17 (e_un n_36_17) := u_ldIT f_l2_eq (s_iload (i := .iload_n 2) (len := 1) hq_36 (by decide +kernel) rfl (.inr ⟨2, rfl, rfl, rfl⟩) : e_Sn 36 17 (o_load e_okI 2 18)) t_36_18
noncomputable def n_36_16 : e_Y := u_ld f_okI f_l1 n_36_17
theorem t_36_16 : e_Sn 36 16 (e_un n_36_16) := u_ldIT f_l1_eq (s_iload (i := .iload_n 1) (len := 1) hq_36 (by decide +kernel) rfl (.inr ⟨1, rfl, rfl, rfl⟩) : e_Sn 36 16 (o_load e_okI 1 17)) t_36_17
noncomputable def n_36_13 : e_Y := u_getf 4 1 (u_old (o_getf (e_f1 4 1) 16) n_36_16) n_36_16
theorem t_36_13 : e_Sn 36 13 (e_un n_36_13) := u_getfT (s_getf (C := er_4) (T := et_4) (N := 5) (ref := "Plateroomprinter$Items") (index := 21) (ci := 4) (k := 1) hq_36 ho_36 ⟨rfl, by decide, ei_4, r_m_1_95, .inl rfl⟩ (by decide +kernel) rfl : e_Sn 36 13 (o_getf (e_f1 4 1) 16)) t_36_16
noncomputable def n_36_12 : e_Y := u_ld f_okA f_l0 n_36_13
theorem t_36_12 : e_Sn 36 12 (e_un n_36_12) := u_ldAT f_l0_eq (s_aload (i := .aload_n 0) (len := 1) hq_36 (by decide +kernel) rfl (.inr ⟨0, rfl, rfl, rfl⟩) : e_Sn 36 12 (o_load e_okR 0 13)) t_36_13
noncomputable def n_36_9 : e_Y := u_jmp y_ge (u_old2 (o_clt 12 34) 12 n_36_12 n_36_34) n_36_12 n_36_34
theorem t_36_9 : e_Sn 36 9 (e_un n_36_9) := u_cltT rfl (s_cge (off := (25)) hq_36 (by decide +kernel) rfl rfl : e_Sn 36 9 (o_clt 12 34)) t_36_12 t_36_34
noncomputable def n_36_6 : e_Y := u_getf 4 0 (u_old (o_getf (e_f1 4 0) 9) n_36_9) n_36_9
theorem t_36_6 : e_Sn 36 6 (e_un n_36_6) := u_getfT (s_getf (C := er_4) (T := et_4) (N := 5) (ref := "Plateroomprinter$Items") (index := 15) (ci := 4) (k := 0) hq_36 ho_36 ⟨rfl, by decide, ei_4, r_m_1_94, .inl rfl⟩ (by decide +kernel) rfl : e_Sn 36 6 (o_getf (e_f1 4 0) 9)) t_36_9
noncomputable def n_36_5 : e_Y := u_ld f_okA f_l0 n_36_6
theorem t_36_5 : e_Sn 36 5 (e_un n_36_5) := u_ldAT f_l0_eq (s_aload (i := .aload_n 0) (len := 1) hq_36 (by decide +kernel) rfl (.inr ⟨0, rfl, rfl, rfl⟩) : e_Sn 36 5 (o_load e_okR 0 6)) t_36_6
noncomputable def n_36_4 : e_Y := u_ld f_okI f_l1 n_36_5
theorem t_36_4 : e_Sn 36 4 (e_un n_36_4) := u_ldIT f_l1_eq (s_iload (i := .iload_n 1) (len := 1) hq_36 (by decide +kernel) rfl (.inr ⟨1, rfl, rfl, rfl⟩) : e_Sn 36 4 (o_load e_okI 1 5)) t_36_5
noncomputable def n_36_1 : e_Y := u_if y_ge0 (u_old2 (o_iflt 34 4) 34 n_36_34 n_36_4) n_36_34 n_36_4
theorem t_36_1 : e_Sn 36 1 (e_un n_36_1) := u_ifltT rfl (s_iflt (off := (33)) hq_36 (by decide +kernel) rfl rfl : e_Sn 36 1 (o_iflt 34 4)) t_36_34 t_36_4
noncomputable def n_36_0 : e_Y := u_ld f_okI f_l1 n_36_1
theorem t_36_0 : e_Sn 36 0 (e_un n_36_0) := u_ldIT f_l1_eq (s_iload (i := .iload_n 1) (len := 1) hq_36 (by decide +kernel) rfl (.inr ⟨1, rfl, rfl, rfl⟩) : e_Sn 36 0 (o_load e_okI 1 1)) t_36_1
noncomputable def e_tb_36 : e_X := (e_lf 0 (e_un n_36_0))
theorem e_tk_36 : e_Tb 36 e_tb_36 := (e_lfT t_36_0)
theorem hq_102 : (e_ml[102]?).map (·.2.1) = some prog_37_method_69_code := Eq.trans (congrArg (Option.map (fun e => e.2.1)) hy_102) rfl
theorem ho_102 : (e_ml[102]?).map (·.1.cls) = some "java/lang/Math" := Eq.trans (congrArg (Option.map (fun e => e.1.cls)) hy_102) rfl
theorem hr_102 : (e_ml[102]?).map (·.2.2.2) = some (some .int) := Eq.trans (congrArg (Option.map (fun e => e.2.2.2)) hy_102) rfl
noncomputable def n_102_10 : e_Y := u_retI
theorem t_102_10 : e_Sn 102 10 (e_un n_102_10) := u_retIT (s_iret hq_102 hr_102 (by decide +kernel) : e_Sn 102 10 (o_ret e_okI))
noncomputable def n_102_6 : e_Y := n_102_10
theorem t_102_6 : e_Sn 102 6 (e_un n_102_6) := u_gotoT (s_goto (off := (4)) hq_102 (by decide +kernel) rfl : e_Sn 102 6 (o_goto 10)) t_102_10
noncomputable def n_102_5 : e_Y := u_ld f_okI f_l0 n_102_6
theorem t_102_5 : e_Sn 102 5 (e_un n_102_5) := u_ldIT f_l0_eq (s_iload (i := .iload_n 0) (len := 1) hq_102 (by decide +kernel) rfl (.inr ⟨0, rfl, rfl, rfl⟩) : e_Sn 102 5 (o_load e_okI 0 6)) t_102_6
noncomputable def n_102_2 : e_Y := u_jmp y_le (u_old2 (o_cgt 9 5) 9 (u_at 9) n_102_5) (u_at 9) n_102_5
theorem t_102_2 : e_Sn 102 2 (e_un n_102_2) := u_cgtT rfl (s_cgt (off := (7)) hq_102 (by decide +kernel) rfl rfl : e_Sn 102 2 (o_cgt 9 5)) u_atT t_102_5
noncomputable def n_102_1 : e_Y := u_ld f_okI f_l1 n_102_2
theorem t_102_1 : e_Sn 102 1 (e_un n_102_1) := u_ldIT f_l1_eq (s_iload (i := .iload_n 1) (len := 1) hq_102 (by decide +kernel) rfl (.inr ⟨1, rfl, rfl, rfl⟩) : e_Sn 102 1 (o_load e_okI 1 2)) t_102_2
noncomputable def n_102_0 : e_Y := u_ld f_okI f_l0 n_102_1
theorem t_102_0 : e_Sn 102 0 (e_un n_102_0) := u_ldIT f_l0_eq (s_iload (i := .iload_n 0) (len := 1) hq_102 (by decide +kernel) rfl (.inr ⟨0, rfl, rfl, rfl⟩) : e_Sn 102 0 (o_load e_okI 0 1)) t_102_1
noncomputable def e_tb_102 : e_X := (e_lf 0 (e_un n_102_0))
theorem e_tk_102 : e_Tb 102 e_tb_102 := (e_lfT t_102_0)
theorem hq_30 : (e_ml[30]?).map (·.2.1) = some prog_5_method_2_code := Eq.trans (congrArg (Option.map (fun e => e.2.1)) hy_30) rfl
theorem ho_30 : (e_ml[30]?).map (·.1.cls) = some "Plateroomprinter$Items" := Eq.trans (congrArg (Option.map (fun e => e.1.cls)) hy_30) rfl
theorem hr_30 : (e_ml[30]?).map (·.2.2.2) = some none := Eq.trans (congrArg (Option.map (fun e => e.2.2.2)) hy_30) rfl
noncomputable def n_30_40 : e_Y := u_retV
theorem t_30_40 : e_Sn 30 40 (e_un n_30_40) := u_retVT (s_vret hq_30 hr_30 (by decide +kernel) : e_Sn 30 40 (o_retv))
noncomputable def n_30_37 : e_Y := (u_at 18)
theorem t_30_37 : e_Sn 30 37 (e_un n_30_37) := u_gotoT (s_goto (off := (-19)) hq_30 (by decide +kernel) rfl : e_Sn 30 37 (o_goto 18)) u_atT
noncomputable def n_30_34 : e_Y := u_inc f_l2 f_s2 1 n_30_37
theorem t_30_34 : e_Sn 30 34 (e_un n_30_34) := u_incT f_l2_eq (fun _ _ _ => f_s2_eq) (s_iinc (zz := (1)) hq_30 (by decide +kernel) rfl (by decide +kernel) ⟨by decide, by decide⟩ : e_Sn 30 34 (o_iinc 2 1 37)) t_30_37
noncomputable def n_30_31 : e_Y := u_callV 4 36 5 24 5 n_36_0 n_30_34
theorem t_30_31 : e_Sn 30 31 (e_un n_30_31) := u_callVT rfl (s_callV (ci := 4) (C := er_4) (T := et_4) (N := 5) (index := 37) hq_30 ho_30 hy_36 hp_36 hc_36 hi_36 hd_36 r_m_2_50 hs_36 r_m_2_52 rfl (by decide +kernel) rfl : e_Sn 30 31 (o_callV (e_s1 4 36 5) 5 34)) t_36_0 t_30_34
noncomputable def n_30_30 : e_Y := u_push (.inl 2147483648) n_30_31
theorem t_30_30 : e_Sn 30 30 (e_un n_30_30) := u_pushT (s_iconst (n := (0)) hq_30 (by decide +kernel) rfl ⟨by decide +kernel, by decide +kernel⟩ : e_Sn 30 30 (o_push (.inl 2147483648) 31)) t_30_31
noncomputable def n_30_29 : e_Y := u_push (.inl 2147483648) n_30_30
theorem t_30_29 : e_Sn 30 29 (e_un n_30_29) := u_pushT (s_iconst (n := (0)) hq_30 (by decide +kernel) rfl ⟨by decide +kernel, by decide +kernel⟩ : e_Sn 30 29 (o_push (.inl 2147483648) 30)) t_30_30
noncomputable def n_30_28 : e_Y := u_push (.inl 2147483647) n_30_29
theorem t_30_28 : e_Sn 30 28 (e_un n_30_28) := u_pushT (s_iconst (n := (-1)) hq_30 (by decide +kernel) rfl ⟨by decide +kernel, by decide +kernel⟩ : e_Sn 30 28 (o_push (.inl 2147483647) 29)) t_30_29
noncomputable def n_30_27 : e_Y := u_ld f_okI f_l2 n_30_28
theorem t_30_27 : e_Sn 30 27 (e_un n_30_27) := u_ldIT f_l2_eq (s_iload (i := .iload_n 2) (len := 1) hq_30 (by decide +kernel) rfl (.inr ⟨2, rfl, rfl, rfl⟩) : e_Sn 30 27 (o_load e_okI 2 28)) t_30_28
noncomputable def n_30_26 : e_Y := u_ld f_okA f_l0 n_30_27
theorem t_30_26 : e_Sn 30 26 (e_un n_30_26) := u_ldAT f_l0_eq (s_aload (i := .aload_n 0) (len := 1) hq_30 (by decide +kernel) rfl (.inr ⟨0, rfl, rfl, rfl⟩) : e_Sn 30 26 (o_load e_okR 0 27)) t_30_27
noncomputable def n_30_23 : e_Y := u_jmp y_ge (u_old2 (o_clt 26 40) 26 n_30_26 n_30_40) n_30_26 n_30_40
theorem t_30_23 : e_Sn 30 23 (e_un n_30_23) := u_cltT rfl (s_cge (off := (17)) hq_30 (by decide +kernel) rfl rfl : e_Sn 30 23 (o_clt 26 40)) t_30_26 t_30_40
noncomputable def n_30_20 : e_Y := u_getf 4 0 (u_old (o_getf (e_f1 4 0) 23) n_30_23) n_30_23
theorem t_30_20 : e_Sn 30 20 (e_un n_30_20) := u_getfT (s_getf (C := er_4) (T := et_4) (N := 5) (ref := "Plateroomprinter$Items") (index := 15) (ci := 4) (k := 0) hq_30 ho_30 ⟨rfl, by decide, ei_4, r_m_1_94, .inl rfl⟩ (by decide +kernel) rfl : e_Sn 30 20 (o_getf (e_f1 4 0) 23)) t_30_23
noncomputable def n_30_19 : e_Y := u_ld f_okA f_l0 n_30_20
theorem t_30_19 : e_Sn 30 19 (e_un n_30_19) := u_ldAT f_l0_eq (s_aload (i := .aload_n 0) (len := 1) hq_30 (by decide +kernel) rfl (.inr ⟨0, rfl, rfl, rfl⟩) : e_Sn 30 19 (o_load e_okR 0 20)) t_30_20
noncomputable def n_30_18 : e_Y := u_ld f_okI f_l2 n_30_19
theorem t_30_18 : e_Sn 30 18 (e_un n_30_18) := u_ldIT f_l2_eq (s_iload (i := .iload_n 2) (len := 1) hq_30 (by decide +kernel) rfl (.inr ⟨2, rfl, rfl, rfl⟩) : e_Sn 30 18 (o_load e_okI 2 19)) t_30_19
noncomputable def n_30_17 : e_Y := u_st f_okI f_s2 n_30_18
theorem t_30_17 : e_Sn 30 17 (e_un n_30_17) := u_stIT (fun _ _ _ => f_s2_eq) (s_istore (i := .istore_n 2) (len := 1) hq_30 (by decide +kernel) rfl (.inr ⟨2, rfl, rfl, rfl⟩) : e_Sn 30 17 (o_store e_okI 2 18)) t_30_18
noncomputable def n_30_16 : e_Y := u_push (.inl 2147483648) n_30_17
theorem t_30_16 : e_Sn 30 16 (e_un n_30_16) := u_pushT (s_iconst (n := (0)) hq_30 (by decide +kernel) rfl ⟨by decide +kernel, by decide +kernel⟩ : e_Sn 30 16 (o_push (.inl 2147483648) 17)) t_30_17
noncomputable def n_30_13 : e_Y := u_putf 4 4 f_okI (u_old (o_putf (e_f1 4 4) e_okI 16) n_30_16) n_30_16
theorem t_30_13 : e_Sn 30 13 (e_un n_30_13) := u_putfT (fun _ => f_okI_eq) (s_putf (ty0 := ey_4) (ok := e_okI) (C := er_4) (T := et_4) (N := 5) (ref := "Plateroomprinter$Items") (index := 31) (ci := 4) (k := 4) hq_30 ho_30 ⟨rfl, by decide, ei_4, r_m_1_98, .inl rfl⟩ eo_4 en_4 e_oksI (.inl rfl) (by decide +kernel) rfl : e_Sn 30 13 (o_putf (e_f1 4 4) e_okI 16)) t_30_16
noncomputable def n_30_10 : e_Y := u_tab (o_mmax 13)
theorem t_30_10 : e_Sn 30 10 (e_un n_30_10) := u_tabT (s_mmax (index := 9) hq_30 ho_30 r_m_1_91 r_m_1_92 r_m_1_5 r_m_1_93 (by decide +kernel) rfl : e_Sn 30 10 (o_mmax 13))
noncomputable def n_30_7 : e_Y := u_tab (o_mmin 10)
theorem t_30_7 : e_Sn 30 7 (e_un n_30_7) := u_tabT (s_mmin (index := 34) hq_30 ho_30 r_m_2_47 r_m_2_48 r_m_1_5 r_m_2_49 (by decide +kernel) rfl : e_Sn 30 7 (o_mmin 10))
noncomputable def n_30_4 : e_Y := u_getf 4 0 (u_old (o_getf (e_f1 4 0) 7) n_30_7) n_30_7
theorem t_30_4 : e_Sn 30 4 (e_un n_30_4) := u_getfT (s_getf (C := er_4) (T := et_4) (N := 5) (ref := "Plateroomprinter$Items") (index := 15) (ci := 4) (k := 0) hq_30 ho_30 ⟨rfl, by decide, ei_4, r_m_1_94, .inl rfl⟩ (by decide +kernel) rfl : e_Sn 30 4 (o_getf (e_f1 4 0) 7)) t_30_7
noncomputable def n_30_3 : e_Y := u_ld f_okA f_l0 n_30_4
theorem t_30_3 : e_Sn 30 3 (e_un n_30_3) := u_ldAT f_l0_eq (s_aload (i := .aload_n 0) (len := 1) hq_30 (by decide +kernel) rfl (.inr ⟨0, rfl, rfl, rfl⟩) : e_Sn 30 3 (o_load e_okR 0 4)) t_30_4
noncomputable def n_30_2 : e_Y := u_ld f_okI f_l1 n_30_3
theorem t_30_2 : e_Sn 30 2 (e_un n_30_2) := u_ldIT f_l1_eq (s_iload (i := .iload_n 1) (len := 1) hq_30 (by decide +kernel) rfl (.inr ⟨1, rfl, rfl, rfl⟩) : e_Sn 30 2 (o_load e_okI 1 3)) t_30_3
noncomputable def n_30_1 : e_Y := u_push (.inl 2147483648) n_30_2
theorem t_30_1 : e_Sn 30 1 (e_un n_30_1) := u_pushT (s_iconst (n := (0)) hq_30 (by decide +kernel) rfl ⟨by decide +kernel, by decide +kernel⟩ : e_Sn 30 1 (o_push (.inl 2147483648) 2)) t_30_2
noncomputable def n_30_0 : e_Y := u_ld f_okA f_l0 n_30_1
theorem t_30_0 : e_Sn 30 0 (e_un n_30_0) := u_ldAT f_l0_eq (s_aload (i := .aload_n 0) (len := 1) hq_30 (by decide +kernel) rfl (.inr ⟨0, rfl, rfl, rfl⟩) : e_Sn 30 0 (o_load e_okR 0 1)) t_30_1
noncomputable def e_tb_30 : e_X := (e_br 13 (e_br 10 (e_lf 0 (e_un n_30_0)) (e_lf 10 (e_un n_30_10))) (e_br 18 (e_lf 13 (e_un n_30_13)) (e_lf 18 (e_un n_30_18))))
theorem e_tk_30 : e_Tb 30 e_tb_30 := (e_brT (e_brT (e_lfT t_30_0) (e_lfT t_30_10)) (e_brT (e_lfT t_30_13) (e_lfT t_30_18)))
theorem hq_45 : (e_ml[45]?).map (·.2.1) = some prog_8_method_2_code := Eq.trans (congrArg (Option.map (fun e => e.2.1)) hy_45) rfl
theorem ho_45 : (e_ml[45]?).map (·.1.cls) = some "Plateroomprinter$Path" := Eq.trans (congrArg (Option.map (fun e => e.1.cls)) hy_45) rfl
theorem hr_45 : (e_ml[45]?).map (·.2.2.2) = some none := Eq.trans (congrArg (Option.map (fun e => e.2.2.2)) hy_45) rfl
noncomputable def n_45_10 : e_Y := u_retV
theorem t_45_10 : e_Sn 45 10 (e_un n_45_10) := u_retVT (s_vret hq_45 hr_45 (by decide +kernel) : e_Sn 45 10 (o_retv))
noncomputable def n_45_7 : e_Y := u_putf 7 5 f_okI (u_old (o_putf (e_f1 7 5) e_okI 10) n_45_10) n_45_10
theorem t_45_7 : e_Sn 45 7 (e_un n_45_7) := u_putfT (fun _ => f_okI_eq) (s_putf (ty0 := ey_7) (ok := e_okI) (C := er_7) (T := et_7) (N := 6) (ref := "Plateroomprinter$Path") (index := 28) (ci := 7) (k := 5) hq_45 ho_45 ⟨rfl, by decide, ei_7, r_m_1_162, .inl rfl⟩ eo_7 en_7 e_oksI (.inl rfl) (by decide +kernel) rfl : e_Sn 45 7 (o_putf (e_f1 7 5) e_okI 10)) t_45_10
noncomputable def n_45_6 : e_Y := u_push (.inl 2147483648) n_45_7
theorem t_45_6 : e_Sn 45 6 (e_un n_45_6) := u_pushT (s_iconst (n := (0)) hq_45 (by decide +kernel) rfl ⟨by decide +kernel, by decide +kernel⟩ : e_Sn 45 6 (o_push (.inl 2147483648) 7)) t_45_7
noncomputable def n_45_5 : e_Y := u_ld f_okA f_l0 n_45_6
theorem t_45_5 : e_Sn 45 5 (e_un n_45_5) := u_ldAT f_l0_eq (s_aload (i := .aload_n 0) (len := 1) hq_45 (by decide +kernel) rfl (.inr ⟨0, rfl, rfl, rfl⟩) : e_Sn 45 5 (o_load e_okR 0 6)) t_45_6
noncomputable def n_45_2 : e_Y := u_putf 7 4 f_okI (u_old (o_putf (e_f1 7 4) e_okI 5) n_45_5) n_45_5
theorem t_45_2 : e_Sn 45 2 (e_un n_45_2) := u_putfT (fun _ => f_okI_eq) (s_putf (ty0 := ey_7) (ok := e_okI) (C := er_7) (T := et_7) (N := 6) (ref := "Plateroomprinter$Path") (index := 24) (ci := 7) (k := 4) hq_45 ho_45 ⟨rfl, by decide, ei_7, r_m_1_157, .inl rfl⟩ eo_7 en_7 e_oksI (.inl rfl) (by decide +kernel) rfl : e_Sn 45 2 (o_putf (e_f1 7 4) e_okI 5)) t_45_5
noncomputable def n_45_1 : e_Y := u_push (.inl 2147483648) n_45_2
theorem t_45_1 : e_Sn 45 1 (e_un n_45_1) := u_pushT (s_iconst (n := (0)) hq_45 (by decide +kernel) rfl ⟨by decide +kernel, by decide +kernel⟩ : e_Sn 45 1 (o_push (.inl 2147483648) 2)) t_45_2
noncomputable def n_45_0 : e_Y := u_ld f_okA f_l0 n_45_1
theorem t_45_0 : e_Sn 45 0 (e_un n_45_0) := u_ldAT f_l0_eq (s_aload (i := .aload_n 0) (len := 1) hq_45 (by decide +kernel) rfl (.inr ⟨0, rfl, rfl, rfl⟩) : e_Sn 45 0 (o_load e_okR 0 1)) t_45_1
noncomputable def e_tb_45 : e_X := (e_lf 0 (e_un n_45_0))
theorem e_tk_45 : e_Tb 45 e_tb_45 := (e_lfT t_45_0)
theorem hq_1 : (e_ml[1]?).map (·.2.1) = some prog_1_method_35_code := Eq.trans (congrArg (Option.map (fun e => e.2.1)) hy_1) rfl
theorem ho_1 : (e_ml[1]?).map (·.1.cls) = some "Plateroomprinter" := Eq.trans (congrArg (Option.map (fun e => e.1.cls)) hy_1) rfl
theorem hr_1 : (e_ml[1]?).map (·.2.2.2) = some none := Eq.trans (congrArg (Option.map (fun e => e.2.2.2)) hy_1) rfl
noncomputable def n_1_18 : e_Y := u_retV
theorem t_1_18 : e_Sn 1 18 (e_un n_1_18) := u_retVT (s_vret hq_1 hr_1 (by decide +kernel) : e_Sn 1 18 (o_retv))
noncomputable def n_1_15 : e_Y := (u_at 2)
theorem t_1_15 : e_Sn 1 15 (e_un n_1_15) := u_gotoT (s_goto (off := (-13)) hq_1 (by decide +kernel) rfl : e_Sn 1 15 (o_goto 2)) u_atT
noncomputable def n_1_12 : e_Y := u_inc f_l1 f_s1 1 n_1_15
theorem t_1_12 : e_Sn 1 12 (e_un n_1_12) := u_incT f_l1_eq (fun _ _ _ => f_s1_eq) (s_iinc (zz := (1)) hq_1 (by decide +kernel) rfl (by decide +kernel) ⟨by decide, by decide⟩ : e_Sn 1 12 (o_iinc 1 1 15)) t_1_15
noncomputable def n_1_11 : e_Y := u_ast 0 f_okI (u_old (o_ast 0 e_okI 12) n_1_12) n_1_12
theorem t_1_11 : e_Sn 1 11 (e_un n_1_11) := u_astT (fun _ => f_okI_eq) (s_iast hq_1 (by decide +kernel) rfl : e_Sn 1 11 (o_ast 0 e_okI 12)) t_1_12
noncomputable def n_1_10 : e_Y := u_push (.inl 2147483648) n_1_11
theorem t_1_10 : e_Sn 1 10 (e_un n_1_10) := u_pushT (s_iconst (n := (0)) hq_1 (by decide +kernel) rfl ⟨by decide +kernel, by decide +kernel⟩ : e_Sn 1 10 (o_push (.inl 2147483648) 11)) t_1_11
noncomputable def n_1_9 : e_Y := u_ld f_okI f_l1 n_1_10
theorem t_1_9 : e_Sn 1 9 (e_un n_1_9) := u_ldIT f_l1_eq (s_iload (i := .iload_n 1) (len := 1) hq_1 (by decide +kernel) rfl (.inr ⟨1, rfl, rfl, rfl⟩) : e_Sn 1 9 (o_load e_okI 1 10)) t_1_10
noncomputable def n_1_8 : e_Y := u_ld f_okA f_l0 n_1_9
theorem t_1_8 : e_Sn 1 8 (e_un n_1_8) := u_ldAT f_l0_eq (s_aload (i := .aload_n 0) (len := 1) hq_1 (by decide +kernel) rfl (.inr ⟨0, rfl, rfl, rfl⟩) : e_Sn 1 8 (o_load e_okR 0 9)) t_1_9
noncomputable def n_1_5 : e_Y := u_jmp y_ge (u_old2 (o_clt 8 18) 8 n_1_8 n_1_18) n_1_8 n_1_18
theorem t_1_5 : e_Sn 1 5 (e_un n_1_5) := u_cltT rfl (s_cge (off := (13)) hq_1 (by decide +kernel) rfl rfl : e_Sn 1 5 (o_clt 8 18)) t_1_8 t_1_18
noncomputable def n_1_4 : e_Y := u_old (o_alen e_fcs 5) n_1_5
theorem t_1_4 : e_Sn 1 4 (e_un n_1_4) := u_oldT (s_alen hq_1 (by decide +kernel) rfl : e_Sn 1 4 (o_alen e_fcs 5)) t_1_5 (e_cg_alen e_fcs)
noncomputable def n_1_3 : e_Y := u_ld f_okA f_l0 n_1_4
theorem t_1_3 : e_Sn 1 3 (e_un n_1_3) := u_ldAT f_l0_eq (s_aload (i := .aload_n 0) (len := 1) hq_1 (by decide +kernel) rfl (.inr ⟨0, rfl, rfl, rfl⟩) : e_Sn 1 3 (o_load e_okR 0 4)) t_1_4
noncomputable def n_1_2 : e_Y := u_ld f_okI f_l1 n_1_3
theorem t_1_2 : e_Sn 1 2 (e_un n_1_2) := u_ldIT f_l1_eq (s_iload (i := .iload_n 1) (len := 1) hq_1 (by decide +kernel) rfl (.inr ⟨1, rfl, rfl, rfl⟩) : e_Sn 1 2 (o_load e_okI 1 3)) t_1_3
noncomputable def n_1_1 : e_Y := u_st f_okI f_s1 n_1_2
theorem t_1_1 : e_Sn 1 1 (e_un n_1_1) := u_stIT (fun _ _ _ => f_s1_eq) (s_istore (i := .istore_n 1) (len := 1) hq_1 (by decide +kernel) rfl (.inr ⟨1, rfl, rfl, rfl⟩) : e_Sn 1 1 (o_store e_okI 1 2)) t_1_2
noncomputable def n_1_0 : e_Y := u_push (.inl 2147483648) n_1_1
theorem t_1_0 : e_Sn 1 0 (e_un n_1_0) := u_pushT (s_iconst (n := (0)) hq_1 (by decide +kernel) rfl ⟨by decide +kernel, by decide +kernel⟩ : e_Sn 1 0 (o_push (.inl 2147483648) 1)) t_1_1
noncomputable def e_tb_1 : e_X := (e_br 2 (e_lf 0 (e_un n_1_0)) (e_lf 2 (e_un n_1_2)))
theorem e_tk_1 : e_Tb 1 e_tb_1 := (e_brT (e_lfT t_1_0) (e_lfT t_1_2))
theorem hq_49 : (e_ml[49]?).map (·.2.1) = some prog_10_method_2_code := Eq.trans (congrArg (Option.map (fun e => e.2.1)) hy_49) rfl
theorem ho_49 : (e_ml[49]?).map (·.1.cls) = some "Plateroomprinter$Sheet" := Eq.trans (congrArg (Option.map (fun e => e.1.cls)) hy_49) rfl
theorem hr_49 : (e_ml[49]?).map (·.2.2.2) = some none := Eq.trans (congrArg (Option.map (fun e => e.2.2.2)) hy_49) rfl
noncomputable def n_49_7 : e_Y := u_retV
theorem t_49_7 : e_Sn 49 7 (e_un n_49_7) := u_retVT (s_vret hq_49 hr_49 (by decide +kernel) : e_Sn 49 7 (o_retv))
noncomputable def n_49_4 : e_Y := u_callS 1 2 21 1 n_1_0 n_49_7
theorem t_49_4 : e_Sn 49 4 (e_un n_49_4) := u_callST rfl (s_callSN (host := "Plateroomprinter") (index := 15) hq_49 ho_49 hy_1 hp_1 hc_1 hi_1 hd_1 (r_k2 (List.mem_of_getElem? (i := 79) (by decide +kernel))) hs_1 (by decide +kernel) rfl : e_Sn 49 4 (o_callS 1 2 1 7)) t_1_0 t_49_7
noncomputable def n_49_1 : e_Y := u_getf 9 0 (u_old (o_getf (e_f1 9 0) 4) n_49_4) n_49_4
theorem t_49_1 : e_Sn 49 1 (e_un n_49_1) := u_getfT (s_getf (C := er_9) (T := et_9) (N := 1) (ref := "Plateroomprinter$Sheet") (index := 9) (ci := 9) (k := 0) hq_49 ho_49 ⟨rfl, by decide, ei_9, r_m_2_4, .inl rfl⟩ (by decide +kernel) rfl : e_Sn 49 1 (o_getf (e_f1 9 0) 4)) t_49_4
noncomputable def n_49_0 : e_Y := u_ld f_okA f_l0 n_49_1
theorem t_49_0 : e_Sn 49 0 (e_un n_49_0) := u_ldAT f_l0_eq (s_aload (i := .aload_n 0) (len := 1) hq_49 (by decide +kernel) rfl (.inr ⟨0, rfl, rfl, rfl⟩) : e_Sn 49 0 (o_load e_okR 0 1)) t_49_1
noncomputable def e_tb_49 : e_X := (e_lf 0 (e_un n_49_0))
theorem e_tk_49 : e_Tb 49 e_tb_49 := (e_lfT t_49_0)
theorem hq_38 : (e_ml[38]?).map (·.2.1) = some prog_6_method_2_code := Eq.trans (congrArg (Option.map (fun e => e.2.1)) hy_38) rfl
theorem ho_38 : (e_ml[38]?).map (·.1.cls) = some "Plateroomprinter$Matrix" := Eq.trans (congrArg (Option.map (fun e => e.1.cls)) hy_38) rfl
theorem hr_38 : (e_ml[38]?).map (·.2.2.2) = some none := Eq.trans (congrArg (Option.map (fun e => e.2.2.2)) hy_38) rfl
noncomputable def n_38_41 : e_Y := u_retV
theorem t_38_41 : e_Sn 38 41 (e_un n_38_41) := u_retVT (s_vret hq_38 hr_38 (by decide +kernel) : e_Sn 38 41 (o_retv))
noncomputable def n_38_38 : e_Y := (u_at 2)
theorem t_38_38 : e_Sn 38 38 (e_un n_38_38) := u_gotoT (s_goto (off := (-36)) hq_38 (by decide +kernel) rfl : e_Sn 38 38 (o_goto 2)) u_atT
noncomputable def n_38_35 : e_Y := u_inc f_l1 f_s1 1 n_38_38
theorem t_38_35 : e_Sn 38 35 (e_un n_38_35) := u_incT f_l1_eq (fun _ _ _ => f_s1_eq) (s_iinc (zz := (1)) hq_38 (by decide +kernel) rfl (by decide +kernel) ⟨by decide, by decide⟩ : e_Sn 38 35 (o_iinc 1 1 38)) t_38_38
noncomputable def n_38_34 : e_Y := u_old (o_ast 2 e_okL 35) n_38_35
theorem t_38_34 : e_Sn 38 34 (e_un n_38_34) := u_oldT (s_last hq_38 (by decide +kernel) rfl : e_Sn 38 34 (o_ast 2 e_okL 35)) t_38_35 (e_cg_ast 2 e_okL)
noncomputable def n_38_33 : e_Y := u_push (e_L 9223372036854775809) n_38_34
theorem t_38_33 : e_Sn 38 33 (e_un n_38_33) := u_pushT (s_lconst (n := 1) hq_38 (by decide +kernel) rfl ⟨by decide +kernel, by decide +kernel⟩ : e_Sn 38 33 (o_push (e_L 9223372036854775809) 34)) t_38_34
noncomputable def n_38_32 : e_Y := u_ld f_okI f_l1 n_38_33
theorem t_38_32 : e_Sn 38 32 (e_un n_38_32) := u_ldIT f_l1_eq (s_iload (i := .iload_n 1) (len := 1) hq_38 (by decide +kernel) rfl (.inr ⟨1, rfl, rfl, rfl⟩) : e_Sn 38 32 (o_load e_okI 1 33)) t_38_33
noncomputable def n_38_29 : e_Y := u_getf 5 1 (u_old (o_getf (e_f1 5 1) 32) n_38_32) n_38_32
theorem t_38_29 : e_Sn 38 29 (e_un n_38_29) := u_getfT (s_getf (C := er_5) (T := et_5) (N := 5) (ref := "Plateroomprinter$Matrix") (index := 15) (ci := 5) (k := 1) hq_38 ho_38 ⟨rfl, by decide, ei_5, r_m_1_126, .inl rfl⟩ (by decide +kernel) rfl : e_Sn 38 29 (o_getf (e_f1 5 1) 32)) t_38_32
noncomputable def n_38_28 : e_Y := u_ld f_okA f_l0 n_38_29
theorem t_38_28 : e_Sn 38 28 (e_un n_38_28) := u_ldAT f_l0_eq (s_aload (i := .aload_n 0) (len := 1) hq_38 (by decide +kernel) rfl (.inr ⟨0, rfl, rfl, rfl⟩) : e_Sn 38 28 (o_load e_okR 0 29)) t_38_29
noncomputable def n_38_27 : e_Y := u_old (o_ast 2 e_okL 28) n_38_28
theorem t_38_27 : e_Sn 38 27 (e_un n_38_27) := u_oldT (s_last hq_38 (by decide +kernel) rfl : e_Sn 38 27 (o_ast 2 e_okL 28)) t_38_28 (e_cg_ast 2 e_okL)
noncomputable def n_38_26 : e_Y := u_push (e_L 9223372036854775808) n_38_27
theorem t_38_26 : e_Sn 38 26 (e_un n_38_26) := u_pushT (s_lconst (n := 0) hq_38 (by decide +kernel) rfl ⟨by decide +kernel, by decide +kernel⟩ : e_Sn 38 26 (o_push (e_L 9223372036854775808) 27)) t_38_27
noncomputable def n_38_23 : e_Y := n_38_27
theorem t_38_23 : e_Sn 38 23 (e_un n_38_23) := u_gotoT (s_goto (off := (4)) hq_38 (by decide +kernel) rfl : e_Sn 38 23 (o_goto 27)) t_38_27
noncomputable def n_38_22 : e_Y := u_push (e_L 9223372036854775809) n_38_23
theorem t_38_22 : e_Sn 38 22 (e_un n_38_22) := u_pushT (s_lconst (n := 1) hq_38 (by decide +kernel) rfl ⟨by decide +kernel, by decide +kernel⟩ : e_Sn 38 22 (o_push (e_L 9223372036854775809) 23)) t_38_23
noncomputable def n_38_19 : e_Y := u_jmp y_ne (u_old2 (o_ceq 22 26) 22 n_38_22 n_38_26) n_38_22 n_38_26
theorem t_38_19 : e_Sn 38 19 (e_un n_38_19) := u_ceqT rfl (s_cne (off := (7)) hq_38 (by decide +kernel) rfl rfl : e_Sn 38 19 (o_ceq 22 26)) t_38_22 t_38_26
noncomputable def n_38_18 : e_Y := u_push (.inl 2147483651) n_38_19
theorem t_38_18 : e_Sn 38 18 (e_un n_38_18) := u_pushT (s_iconst (n := (3)) hq_38 (by decide +kernel) rfl ⟨by decide +kernel, by decide +kernel⟩ : e_Sn 38 18 (o_push (.inl 2147483651) 19)) t_38_19
noncomputable def n_38_17 : e_Y := u_ld f_okI f_l1 n_38_18
theorem t_38_17 : e_Sn 38 17 (e_un n_38_17) := u_ldIT f_l1_eq (s_iload (i := .iload_n 1) (len := 1) hq_38 (by decide +kernel) rfl (.inr ⟨1, rfl, rfl, rfl⟩) : e_Sn 38 17 (o_load e_okI 1 18)) t_38_18
noncomputable def n_38_14 : e_Y := u_if y_ne0 (u_old2 (o_ifeq 22 17) 22 n_38_22 n_38_17) n_38_22 n_38_17
theorem t_38_14 : e_Sn 38 14 (e_un n_38_14) := u_ifeqT rfl (s_ifeq (off := (8)) hq_38 (by decide +kernel) rfl rfl : e_Sn 38 14 (o_ifeq 22 17)) t_38_22 t_38_17
noncomputable def n_38_13 : e_Y := u_ld f_okI f_l1 n_38_14
theorem t_38_13 : e_Sn 38 13 (e_un n_38_13) := u_ldIT f_l1_eq (s_iload (i := .iload_n 1) (len := 1) hq_38 (by decide +kernel) rfl (.inr ⟨1, rfl, rfl, rfl⟩) : e_Sn 38 13 (o_load e_okI 1 14)) t_38_14
noncomputable def n_38_12 : e_Y := u_ld f_okI f_l1 n_38_13
theorem t_38_12 : e_Sn 38 12 (e_un n_38_12) := u_ldIT f_l1_eq (s_iload (i := .iload_n 1) (len := 1) hq_38 (by decide +kernel) rfl (.inr ⟨1, rfl, rfl, rfl⟩) : e_Sn 38 12 (o_load e_okI 1 13)) t_38_13
noncomputable def n_38_9 : e_Y := u_getf 5 0 (u_old (o_getf (e_f1 5 0) 12) n_38_12) n_38_12
theorem t_38_9 : e_Sn 38 9 (e_un n_38_9) := u_getfT (s_getf (C := er_5) (T := et_5) (N := 5) (ref := "Plateroomprinter$Matrix") (index := 9) (ci := 5) (k := 0) hq_38 ho_38 ⟨rfl, by decide, ei_5, r_m_1_124, .inl rfl⟩ (by decide +kernel) rfl : e_Sn 38 9 (o_getf (e_f1 5 0) 12)) t_38_12
noncomputable def n_38_8 : e_Y := u_ld f_okA f_l0 n_38_9
theorem t_38_8 : e_Sn 38 8 (e_un n_38_8) := u_ldAT f_l0_eq (s_aload (i := .aload_n 0) (len := 1) hq_38 (by decide +kernel) rfl (.inr ⟨0, rfl, rfl, rfl⟩) : e_Sn 38 8 (o_load e_okR 0 9)) t_38_9
noncomputable def n_38_5 : e_Y := u_jmp y_ge (u_old2 (o_clt 8 41) 8 n_38_8 n_38_41) n_38_8 n_38_41
theorem t_38_5 : e_Sn 38 5 (e_un n_38_5) := u_cltT rfl (s_cge (off := (36)) hq_38 (by decide +kernel) rfl rfl : e_Sn 38 5 (o_clt 8 41)) t_38_8 t_38_41
noncomputable def n_38_3 : e_Y := u_push (.inl 2147483654) n_38_5
theorem t_38_3 : e_Sn 38 3 (e_un n_38_3) := u_pushT (s_bipush (n := (6)) hq_38 (by decide +kernel) rfl ⟨by decide +kernel, by decide +kernel⟩ : e_Sn 38 3 (o_push (.inl 2147483654) 5)) t_38_5
noncomputable def n_38_2 : e_Y := u_ld f_okI f_l1 n_38_3
theorem t_38_2 : e_Sn 38 2 (e_un n_38_2) := u_ldIT f_l1_eq (s_iload (i := .iload_n 1) (len := 1) hq_38 (by decide +kernel) rfl (.inr ⟨1, rfl, rfl, rfl⟩) : e_Sn 38 2 (o_load e_okI 1 3)) t_38_3
noncomputable def n_38_1 : e_Y := u_st f_okI f_s1 n_38_2
theorem t_38_1 : e_Sn 38 1 (e_un n_38_1) := u_stIT (fun _ _ _ => f_s1_eq) (s_istore (i := .istore_n 1) (len := 1) hq_38 (by decide +kernel) rfl (.inr ⟨1, rfl, rfl, rfl⟩) : e_Sn 38 1 (o_store e_okI 1 2)) t_38_2
noncomputable def n_38_0 : e_Y := u_push (.inl 2147483648) n_38_1
theorem t_38_0 : e_Sn 38 0 (e_un n_38_0) := u_pushT (s_iconst (n := (0)) hq_38 (by decide +kernel) rfl ⟨by decide +kernel, by decide +kernel⟩ : e_Sn 38 0 (o_push (.inl 2147483648) 1)) t_38_1
noncomputable def e_tb_38 : e_X := (e_br 2 (e_lf 0 (e_un n_38_0)) (e_lf 2 (e_un n_38_2)))
theorem e_tk_38 : e_Tb 38 e_tb_38 := (e_brT (e_lfT t_38_0) (e_lfT t_38_2))
theorem hq_54 : (e_ml[54]?).map (·.2.1) = some prog_11_method_5_code := Eq.trans (congrArg (Option.map (fun e => e.2.1)) hy_54) rfl
theorem ho_54 : (e_ml[54]?).map (·.1.cls) = some "Plateroomprinter$State" := Eq.trans (congrArg (Option.map (fun e => e.1.cls)) hy_54) rfl
theorem hr_54 : (e_ml[54]?).map (·.2.2.2) = some none := Eq.trans (congrArg (Option.map (fun e => e.2.2.2)) hy_54) rfl
noncomputable def n_54_22 : e_Y := u_retV
theorem t_54_22 : e_Sn 54 22 (e_un n_54_22) := u_retVT (s_vret hq_54 hr_54 (by decide +kernel) : e_Sn 54 22 (o_retv))
noncomputable def n_54_19 : e_Y := u_putf 10 6 f_okI (u_old (o_putf (e_f1 10 6) e_okI 22) n_54_22) n_54_22
theorem t_54_19 : e_Sn 54 19 (e_un n_54_19) := u_putfT (fun _ => f_okI_eq) (s_putf (ty0 := ey_10) (ok := e_okI) (C := er_10) (T := et_10) (N := 11) (ref := "Plateroomprinter$State") (index := 68) (ci := 10) (k := 6) hq_54 ho_54 ⟨rfl, by decide, ei_10, r_m_1_197, .inl rfl⟩ eo_10 en_10 e_oksI (.inl rfl) (by decide +kernel) rfl : e_Sn 54 19 (o_putf (e_f1 10 6) e_okI 22)) t_54_22
noncomputable def n_54_18 : e_Y := u_push (.inl 2147483648) n_54_19
theorem t_54_18 : e_Sn 54 18 (e_un n_54_18) := u_pushT (s_iconst (n := (0)) hq_54 (by decide +kernel) rfl ⟨by decide +kernel, by decide +kernel⟩ : e_Sn 54 18 (o_push (.inl 2147483648) 19)) t_54_19
noncomputable def n_54_17 : e_Y := u_ld f_okA f_l0 n_54_18
theorem t_54_17 : e_Sn 54 17 (e_un n_54_17) := u_ldAT f_l0_eq (s_aload (i := .aload_n 0) (len := 1) hq_54 (by decide +kernel) rfl (.inr ⟨0, rfl, rfl, rfl⟩) : e_Sn 54 17 (o_load e_okR 0 18)) t_54_18
noncomputable def n_54_14 : e_Y := u_putf 10 5 f_okI (u_old (o_putf (e_f1 10 5) e_okI 17) n_54_17) n_54_17
theorem t_54_14 : e_Sn 54 14 (e_un n_54_14) := u_putfT (fun _ => f_okI_eq) (s_putf (ty0 := ey_10) (ok := e_okI) (C := er_10) (T := et_10) (N := 11) (ref := "Plateroomprinter$State") (index := 65) (ci := 10) (k := 5) hq_54 ho_54 ⟨rfl, by decide, ei_10, r_m_1_194, .inl rfl⟩ eo_10 en_10 e_oksI (.inl rfl) (by decide +kernel) rfl : e_Sn 54 14 (o_putf (e_f1 10 5) e_okI 17)) t_54_17
noncomputable def n_54_13 : e_Y := u_push (.inl 2147483648) n_54_14
theorem t_54_13 : e_Sn 54 13 (e_un n_54_13) := u_pushT (s_iconst (n := (0)) hq_54 (by decide +kernel) rfl ⟨by decide +kernel, by decide +kernel⟩ : e_Sn 54 13 (o_push (.inl 2147483648) 14)) t_54_14
noncomputable def n_54_12 : e_Y := u_ld f_okA f_l0 n_54_13
theorem t_54_12 : e_Sn 54 12 (e_un n_54_12) := u_ldAT f_l0_eq (s_aload (i := .aload_n 0) (len := 1) hq_54 (by decide +kernel) rfl (.inr ⟨0, rfl, rfl, rfl⟩) : e_Sn 54 12 (o_load e_okR 0 13)) t_54_13
noncomputable def n_54_9 : e_Y := u_old (o_putf (e_f1 10 4) e_okZ 12) n_54_12
theorem t_54_9 : e_Sn 54 9 (e_un n_54_9) := u_oldT (s_putf (ty0 := ey_10) (ok := e_okZ) (C := er_10) (T := et_10) (N := 11) (ref := "Plateroomprinter$State") (index := 61) (ci := 10) (k := 4) hq_54 ho_54 ⟨rfl, by decide, ei_10, r_m_1_191, .inl rfl⟩ eo_10 en_10 e_oksZ (.inl rfl) (by decide +kernel) rfl : e_Sn 54 9 (o_putf (e_f1 10 4) e_okZ 12)) t_54_12 (e_cg_putf (e_f1 10 4) e_okZ)
noncomputable def n_54_8 : e_Y := u_push (.inl 2147483648) n_54_9
theorem t_54_8 : e_Sn 54 8 (e_un n_54_8) := u_pushT (s_iconst (n := (0)) hq_54 (by decide +kernel) rfl ⟨by decide +kernel, by decide +kernel⟩ : e_Sn 54 8 (o_push (.inl 2147483648) 9)) t_54_9
noncomputable def n_54_7 : e_Y := u_ld f_okA f_l0 n_54_8
theorem t_54_7 : e_Sn 54 7 (e_un n_54_7) := u_ldAT f_l0_eq (s_aload (i := .aload_n 0) (len := 1) hq_54 (by decide +kernel) rfl (.inr ⟨0, rfl, rfl, rfl⟩) : e_Sn 54 7 (o_load e_okR 0 8)) t_54_8
noncomputable def n_54_4 : e_Y := u_callV 7 45 1 20 1 n_45_0 n_54_7
theorem t_54_4 : e_Sn 54 4 (e_un n_54_4) := u_callVT rfl (s_callV (ci := 7) (C := er_7) (T := et_7) (N := 6) (index := 71) hq_54 ho_54 hy_45 hp_45 hc_45 hi_45 hd_45 (r_k2 (List.mem_of_getElem? (i := 66) (by decide +kernel))) hs_45 r_m_2_68 rfl (by decide +kernel) rfl : e_Sn 54 4 (o_callV (e_s1 7 45 1) 1 7)) t_45_0 t_54_7
noncomputable def n_54_1 : e_Y := u_getf 10 1 (u_old (o_getf (e_f1 10 1) 4) n_54_4) n_54_4
theorem t_54_1 : e_Sn 54 1 (e_un n_54_1) := u_getfT (s_getf (C := er_10) (T := et_10) (N := 11) (ref := "Plateroomprinter$State") (index := 21) (ci := 10) (k := 1) hq_54 ho_54 ⟨rfl, by decide, ei_10, r_m_1_182, .inl rfl⟩ (by decide +kernel) rfl : e_Sn 54 1 (o_getf (e_f1 10 1) 4)) t_54_4
noncomputable def n_54_0 : e_Y := u_ld f_okA f_l0 n_54_1
theorem t_54_0 : e_Sn 54 0 (e_un n_54_0) := u_ldAT f_l0_eq (s_aload (i := .aload_n 0) (len := 1) hq_54 (by decide +kernel) rfl (.inr ⟨0, rfl, rfl, rfl⟩) : e_Sn 54 0 (o_load e_okR 0 1)) t_54_1
noncomputable def e_tb_54 : e_X := (e_lf 0 (e_un n_54_0))
theorem e_tk_54 : e_Tb 54 e_tb_54 := (e_lfT t_54_0)
theorem hq_55 : (e_ml[55]?).map (·.2.1) = some prog_11_method_4_code := Eq.trans (congrArg (Option.map (fun e => e.2.1)) hy_55) rfl
theorem ho_55 : (e_ml[55]?).map (·.1.cls) = some "Plateroomprinter$State" := Eq.trans (congrArg (Option.map (fun e => e.1.cls)) hy_55) rfl
theorem hr_55 : (e_ml[55]?).map (·.2.2.2) = some none := Eq.trans (congrArg (Option.map (fun e => e.2.2.2)) hy_55) rfl
noncomputable def n_55_21 : e_Y := u_retV
theorem t_55_21 : e_Sn 55 21 (e_un n_55_21) := u_retVT (s_vret hq_55 hr_55 (by decide +kernel) : e_Sn 55 21 (o_retv))
noncomputable def n_55_18 : e_Y := (u_at 2)
theorem t_55_18 : e_Sn 55 18 (e_un n_55_18) := u_gotoT (s_goto (off := (-16)) hq_55 (by decide +kernel) rfl : e_Sn 55 18 (o_goto 2)) u_atT
noncomputable def n_55_15 : e_Y := u_inc f_l1 f_s1 1 n_55_18
theorem t_55_15 : e_Sn 55 15 (e_un n_55_15) := u_incT f_l1_eq (fun _ _ _ => f_s1_eq) (s_iinc (zz := (1)) hq_55 (by decide +kernel) rfl (by decide +kernel) ⟨by decide, by decide⟩ : e_Sn 55 15 (o_iinc 1 1 18)) t_55_18
noncomputable def n_55_14 : e_Y := u_ast 0 f_okI (u_old (o_ast 0 e_okI 15) n_55_15) n_55_15
theorem t_55_14 : e_Sn 55 14 (e_un n_55_14) := u_astT (fun _ => f_okI_eq) (s_iast hq_55 (by decide +kernel) rfl : e_Sn 55 14 (o_ast 0 e_okI 15)) t_55_15
noncomputable def n_55_13 : e_Y := u_push (.inl 2147483647) n_55_14
theorem t_55_13 : e_Sn 55 13 (e_un n_55_13) := u_pushT (s_iconst (n := (-1)) hq_55 (by decide +kernel) rfl ⟨by decide +kernel, by decide +kernel⟩ : e_Sn 55 13 (o_push (.inl 2147483647) 14)) t_55_14
noncomputable def n_55_12 : e_Y := u_ld f_okI f_l1 n_55_13
theorem t_55_12 : e_Sn 55 12 (e_un n_55_12) := u_ldIT f_l1_eq (s_iload (i := .iload_n 1) (len := 1) hq_55 (by decide +kernel) rfl (.inr ⟨1, rfl, rfl, rfl⟩) : e_Sn 55 12 (o_load e_okI 1 13)) t_55_13
noncomputable def n_55_9 : e_Y := u_getf 10 2 (u_old (o_getf (e_f1 10 2) 12) n_55_12) n_55_12
theorem t_55_9 : e_Sn 55 9 (e_un n_55_9) := u_getfT (s_getf (C := er_10) (T := et_10) (N := 11) (ref := "Plateroomprinter$State") (index := 25) (ci := 10) (k := 2) hq_55 ho_55 ⟨rfl, by decide, ei_10, r_m_1_185, .inl rfl⟩ (by decide +kernel) rfl : e_Sn 55 9 (o_getf (e_f1 10 2) 12)) t_55_12
noncomputable def n_55_8 : e_Y := u_ld f_okA f_l0 n_55_9
theorem t_55_8 : e_Sn 55 8 (e_un n_55_8) := u_ldAT f_l0_eq (s_aload (i := .aload_n 0) (len := 1) hq_55 (by decide +kernel) rfl (.inr ⟨0, rfl, rfl, rfl⟩) : e_Sn 55 8 (o_load e_okR 0 9)) t_55_9
noncomputable def n_55_5 : e_Y := u_jmp y_ge (u_old2 (o_clt 8 21) 8 n_55_8 n_55_21) n_55_8 n_55_21
theorem t_55_5 : e_Sn 55 5 (e_un n_55_5) := u_cltT rfl (s_cge (off := (16)) hq_55 (by decide +kernel) rfl rfl : e_Sn 55 5 (o_clt 8 21)) t_55_8 t_55_21
noncomputable def n_55_3 : e_Y := u_push (.inl 2147483680) n_55_5
theorem t_55_3 : e_Sn 55 3 (e_un n_55_3) := u_pushT (s_bipush (n := (32)) hq_55 (by decide +kernel) rfl ⟨by decide +kernel, by decide +kernel⟩ : e_Sn 55 3 (o_push (.inl 2147483680) 5)) t_55_5
noncomputable def n_55_2 : e_Y := u_ld f_okI f_l1 n_55_3
theorem t_55_2 : e_Sn 55 2 (e_un n_55_2) := u_ldIT f_l1_eq (s_iload (i := .iload_n 1) (len := 1) hq_55 (by decide +kernel) rfl (.inr ⟨1, rfl, rfl, rfl⟩) : e_Sn 55 2 (o_load e_okI 1 3)) t_55_3
noncomputable def n_55_1 : e_Y := u_st f_okI f_s1 n_55_2
theorem t_55_1 : e_Sn 55 1 (e_un n_55_1) := u_stIT (fun _ _ _ => f_s1_eq) (s_istore (i := .istore_n 1) (len := 1) hq_55 (by decide +kernel) rfl (.inr ⟨1, rfl, rfl, rfl⟩) : e_Sn 55 1 (o_store e_okI 1 2)) t_55_2
noncomputable def n_55_0 : e_Y := u_push (.inl 2147483648) n_55_1
theorem t_55_0 : e_Sn 55 0 (e_un n_55_0) := u_pushT (s_iconst (n := (0)) hq_55 (by decide +kernel) rfl ⟨by decide +kernel, by decide +kernel⟩ : e_Sn 55 0 (o_push (.inl 2147483648) 1)) t_55_1
noncomputable def e_tb_55 : e_X := (e_br 2 (e_lf 0 (e_un n_55_0)) (e_lf 2 (e_un n_55_2)))
theorem e_tk_55 : e_Tb 55 e_tb_55 := (e_brT (e_lfT t_55_0) (e_lfT t_55_2))
theorem hq_52 : (e_ml[52]?).map (·.2.1) = some prog_11_method_2_code := Eq.trans (congrArg (Option.map (fun e => e.2.1)) hy_52) rfl
theorem ho_52 : (e_ml[52]?).map (·.1.cls) = some "Plateroomprinter$State" := Eq.trans (congrArg (Option.map (fun e => e.1.cls)) hy_52) rfl
theorem hr_52 : (e_ml[52]?).map (·.2.2.2) = some none := Eq.trans (congrArg (Option.map (fun e => e.2.2.2)) hy_52) rfl
noncomputable def n_52_65 : e_Y := u_retV
theorem t_52_65 : e_Sn 52 65 (e_un n_52_65) := u_retVT (s_vret hq_52 hr_52 (by decide +kernel) : e_Sn 52 65 (o_retv))
noncomputable def n_52_62 : e_Y := u_putf 10 10 f_okI (u_old (o_putf (e_f1 10 10) e_okI 65) n_52_65) n_52_65
theorem t_52_62 : e_Sn 52 62 (e_un n_52_62) := u_putfT (fun _ => f_okI_eq) (s_putf (ty0 := ey_10) (ok := e_okI) (C := er_10) (T := et_10) (N := 11) (ref := "Plateroomprinter$State") (index := 51) (ci := 10) (k := 10) hq_52 ho_52 ⟨rfl, by decide, ei_10, r_m_1_209, .inl rfl⟩ eo_10 en_10 e_oksI (.inl rfl) (by decide +kernel) rfl : e_Sn 52 62 (o_putf (e_f1 10 10) e_okI 65)) t_52_65
noncomputable def n_52_61 : e_Y := u_push (.inl 2147483649) n_52_62
theorem t_52_61 : e_Sn 52 61 (e_un n_52_61) := u_pushT (s_iconst (n := (1)) hq_52 (by decide +kernel) rfl ⟨by decide +kernel, by decide +kernel⟩ : e_Sn 52 61 (o_push (.inl 2147483649) 62)) t_52_62
noncomputable def n_52_60 : e_Y := u_ld f_okA f_l0 n_52_61
theorem t_52_60 : e_Sn 52 60 (e_un n_52_60) := u_ldAT f_l0_eq (s_aload (i := .aload_n 0) (len := 1) hq_52 (by decide +kernel) rfl (.inr ⟨0, rfl, rfl, rfl⟩) : e_Sn 52 60 (o_load e_okR 0 61)) t_52_61
noncomputable def n_52_57 : e_Y := u_putf 10 9 f_okI (u_old (o_putf (e_f1 10 9) e_okI 60) n_52_60) n_52_60
theorem t_52_57 : e_Sn 52 57 (e_un n_52_57) := u_putfT (fun _ => f_okI_eq) (s_putf (ty0 := ey_10) (ok := e_okI) (C := er_10) (T := et_10) (N := 11) (ref := "Plateroomprinter$State") (index := 48) (ci := 10) (k := 9) hq_52 ho_52 ⟨rfl, by decide, ei_10, r_m_1_206, .inl rfl⟩ eo_10 en_10 e_oksI (.inl rfl) (by decide +kernel) rfl : e_Sn 52 57 (o_putf (e_f1 10 9) e_okI 60)) t_52_60
noncomputable def n_52_56 : e_Y := u_push (.inl 2147483648) n_52_57
theorem t_52_56 : e_Sn 52 56 (e_un n_52_56) := u_pushT (s_iconst (n := (0)) hq_52 (by decide +kernel) rfl ⟨by decide +kernel, by decide +kernel⟩ : e_Sn 52 56 (o_push (.inl 2147483648) 57)) t_52_57
noncomputable def n_52_55 : e_Y := u_ld f_okA f_l0 n_52_56
theorem t_52_55 : e_Sn 52 55 (e_un n_52_55) := u_ldAT f_l0_eq (s_aload (i := .aload_n 0) (len := 1) hq_52 (by decide +kernel) rfl (.inr ⟨0, rfl, rfl, rfl⟩) : e_Sn 52 55 (o_load e_okR 0 56)) t_52_56
noncomputable def n_52_52 : e_Y := u_putf 10 8 f_okI (u_old (o_putf (e_f1 10 8) e_okI 55) n_52_55) n_52_55
theorem t_52_52 : e_Sn 52 52 (e_un n_52_52) := u_putfT (fun _ => f_okI_eq) (s_putf (ty0 := ey_10) (ok := e_okI) (C := er_10) (T := et_10) (N := 11) (ref := "Plateroomprinter$State") (index := 45) (ci := 10) (k := 8) hq_52 ho_52 ⟨rfl, by decide, ei_10, r_m_1_203, .inl rfl⟩ eo_10 en_10 e_oksI (.inl rfl) (by decide +kernel) rfl : e_Sn 52 52 (o_putf (e_f1 10 8) e_okI 55)) t_52_55
noncomputable def n_52_51 : e_Y := u_push (.inl 2147483648) n_52_52
theorem t_52_51 : e_Sn 52 51 (e_un n_52_51) := u_pushT (s_iconst (n := (0)) hq_52 (by decide +kernel) rfl ⟨by decide +kernel, by decide +kernel⟩ : e_Sn 52 51 (o_push (.inl 2147483648) 52)) t_52_52
noncomputable def n_52_50 : e_Y := u_ld f_okA f_l0 n_52_51
theorem t_52_50 : e_Sn 52 50 (e_un n_52_50) := u_ldAT f_l0_eq (s_aload (i := .aload_n 0) (len := 1) hq_52 (by decide +kernel) rfl (.inr ⟨0, rfl, rfl, rfl⟩) : e_Sn 52 50 (o_load e_okR 0 51)) t_52_51
noncomputable def n_52_47 : e_Y := u_putf 10 7 f_okI (u_old (o_putf (e_f1 10 7) e_okI 50) n_52_50) n_52_50
theorem t_52_47 : e_Sn 52 47 (e_un n_52_47) := u_putfT (fun _ => f_okI_eq) (s_putf (ty0 := ey_10) (ok := e_okI) (C := er_10) (T := et_10) (N := 11) (ref := "Plateroomprinter$State") (index := 41) (ci := 10) (k := 7) hq_52 ho_52 ⟨rfl, by decide, ei_10, r_m_1_200, .inl rfl⟩ eo_10 en_10 e_oksI (.inl rfl) (by decide +kernel) rfl : e_Sn 52 47 (o_putf (e_f1 10 7) e_okI 50)) t_52_50
noncomputable def n_52_46 : e_Y := u_push (.inl 2147483649) n_52_47
theorem t_52_46 : e_Sn 52 46 (e_un n_52_46) := u_pushT (s_iconst (n := (1)) hq_52 (by decide +kernel) rfl ⟨by decide +kernel, by decide +kernel⟩ : e_Sn 52 46 (o_push (.inl 2147483649) 47)) t_52_47
noncomputable def n_52_45 : e_Y := u_ld f_okA f_l0 n_52_46
theorem t_52_45 : e_Sn 52 45 (e_un n_52_45) := u_ldAT f_l0_eq (s_aload (i := .aload_n 0) (len := 1) hq_52 (by decide +kernel) rfl (.inr ⟨0, rfl, rfl, rfl⟩) : e_Sn 52 45 (o_load e_okR 0 46)) t_52_46
noncomputable def n_52_42 : e_Y := (u_at 17)
theorem t_52_42 : e_Sn 52 42 (e_un n_52_42) := u_gotoT (s_goto (off := (-25)) hq_52 (by decide +kernel) rfl : e_Sn 52 42 (o_goto 17)) u_atT
noncomputable def n_52_39 : e_Y := u_inc f_l1 f_s1 1 n_52_42
theorem t_52_39 : e_Sn 52 39 (e_un n_52_39) := u_incT f_l1_eq (fun _ _ _ => f_s1_eq) (s_iinc (zz := (1)) hq_52 (by decide +kernel) rfl (by decide +kernel) ⟨by decide, by decide⟩ : e_Sn 52 39 (o_iinc 1 1 42)) t_52_42
noncomputable def n_52_38 : e_Y := u_ast 0 f_okI (u_old (o_ast 0 e_okI 39) n_52_39) n_52_39
theorem t_52_38 : e_Sn 52 38 (e_un n_52_38) := u_astT (fun _ => f_okI_eq) (s_iast hq_52 (by decide +kernel) rfl : e_Sn 52 38 (o_ast 0 e_okI 39)) t_52_39
noncomputable def n_52_37 : e_Y := u_push (.inl 2147483648) n_52_38
theorem t_52_37 : e_Sn 52 37 (e_un n_52_37) := u_pushT (s_iconst (n := (0)) hq_52 (by decide +kernel) rfl ⟨by decide +kernel, by decide +kernel⟩ : e_Sn 52 37 (o_push (.inl 2147483648) 38)) t_52_38
noncomputable def n_52_34 : e_Y := n_52_38
theorem t_52_34 : e_Sn 52 34 (e_un n_52_34) := u_gotoT (s_goto (off := (4)) hq_52 (by decide +kernel) rfl : e_Sn 52 34 (o_goto 38)) t_52_38
noncomputable def n_52_32 : e_Y := u_push (.inl 2147483664) n_52_34
theorem t_52_32 : e_Sn 52 32 (e_un n_52_32) := u_pushT (s_bipush (n := (16)) hq_52 (by decide +kernel) rfl ⟨by decide +kernel, by decide +kernel⟩ : e_Sn 52 32 (o_push (.inl 2147483664) 34)) t_52_34
noncomputable def n_52_29 : e_Y := u_jmp y_ne (u_old2 (o_ceq 32 37) 32 n_52_32 n_52_37) n_52_32 n_52_37
theorem t_52_29 : e_Sn 52 29 (e_un n_52_29) := u_ceqT rfl (s_cne (off := (8)) hq_52 (by decide +kernel) rfl rfl : e_Sn 52 29 (o_ceq 32 37)) t_52_32 t_52_37
noncomputable def n_52_28 : e_Y := u_push (.inl 2147483651) n_52_29
theorem t_52_28 : e_Sn 52 28 (e_un n_52_28) := u_pushT (s_iconst (n := (3)) hq_52 (by decide +kernel) rfl ⟨by decide +kernel, by decide +kernel⟩ : e_Sn 52 28 (o_push (.inl 2147483651) 29)) t_52_29
noncomputable def n_52_27 : e_Y := u_ld f_okI f_l1 n_52_28
theorem t_52_27 : e_Sn 52 27 (e_un n_52_27) := u_ldIT f_l1_eq (s_iload (i := .iload_n 1) (len := 1) hq_52 (by decide +kernel) rfl (.inr ⟨1, rfl, rfl, rfl⟩) : e_Sn 52 27 (o_load e_okI 1 28)) t_52_28
noncomputable def n_52_26 : e_Y := u_ld f_okI f_l1 n_52_27
theorem t_52_26 : e_Sn 52 26 (e_un n_52_26) := u_ldIT f_l1_eq (s_iload (i := .iload_n 1) (len := 1) hq_52 (by decide +kernel) rfl (.inr ⟨1, rfl, rfl, rfl⟩) : e_Sn 52 26 (o_load e_okI 1 27)) t_52_27
noncomputable def n_52_23 : e_Y := u_getf 10 3 (u_old (o_getf (e_f1 10 3) 26) n_52_26) n_52_26
theorem t_52_23 : e_Sn 52 23 (e_un n_52_23) := u_getfT (s_getf (C := er_10) (T := et_10) (N := 11) (ref := "Plateroomprinter$State") (index := 29) (ci := 10) (k := 3) hq_52 ho_52 ⟨rfl, by decide, ei_10, r_m_1_188, .inl rfl⟩ (by decide +kernel) rfl : e_Sn 52 23 (o_getf (e_f1 10 3) 26)) t_52_26
noncomputable def n_52_22 : e_Y := u_ld f_okA f_l0 n_52_23
theorem t_52_22 : e_Sn 52 22 (e_un n_52_22) := u_ldAT f_l0_eq (s_aload (i := .aload_n 0) (len := 1) hq_52 (by decide +kernel) rfl (.inr ⟨0, rfl, rfl, rfl⟩) : e_Sn 52 22 (o_load e_okR 0 23)) t_52_23
noncomputable def n_52_19 : e_Y := u_jmp y_ge (u_old2 (o_clt 22 45) 22 n_52_22 n_52_45) n_52_22 n_52_45
theorem t_52_19 : e_Sn 52 19 (e_un n_52_19) := u_cltT rfl (s_cge (off := (26)) hq_52 (by decide +kernel) rfl rfl : e_Sn 52 19 (o_clt 22 45)) t_52_22 t_52_45
noncomputable def n_52_18 : e_Y := u_push (.inl 2147483652) n_52_19
theorem t_52_18 : e_Sn 52 18 (e_un n_52_18) := u_pushT (s_iconst (n := (4)) hq_52 (by decide +kernel) rfl ⟨by decide +kernel, by decide +kernel⟩ : e_Sn 52 18 (o_push (.inl 2147483652) 19)) t_52_19
noncomputable def n_52_17 : e_Y := u_ld f_okI f_l1 n_52_18
theorem t_52_17 : e_Sn 52 17 (e_un n_52_17) := u_ldIT f_l1_eq (s_iload (i := .iload_n 1) (len := 1) hq_52 (by decide +kernel) rfl (.inr ⟨1, rfl, rfl, rfl⟩) : e_Sn 52 17 (o_load e_okI 1 18)) t_52_18
noncomputable def n_52_16 : e_Y := u_st f_okI f_s1 n_52_17
theorem t_52_16 : e_Sn 52 16 (e_un n_52_16) := u_stIT (fun _ _ _ => f_s1_eq) (s_istore (i := .istore_n 1) (len := 1) hq_52 (by decide +kernel) rfl (.inr ⟨1, rfl, rfl, rfl⟩) : e_Sn 52 16 (o_store e_okI 1 17)) t_52_17
noncomputable def n_52_15 : e_Y := u_push (.inl 2147483648) n_52_16
theorem t_52_15 : e_Sn 52 15 (e_un n_52_15) := u_pushT (s_iconst (n := (0)) hq_52 (by decide +kernel) rfl ⟨by decide +kernel, by decide +kernel⟩ : e_Sn 52 15 (o_push (.inl 2147483648) 16)) t_52_16
noncomputable def n_52_12 : e_Y := u_callV 10 55 2 21 1 n_55_0 n_52_15
theorem t_52_12 : e_Sn 52 12 (e_un n_52_12) := u_callVT rfl (s_callV (ci := 10) (C := er_10) (T := et_10) (N := 11) (index := 38) hq_52 ho_52 hy_55 hp_55 hc_55 hi_55 hd_55 (r_k2 (List.mem_of_getElem? (i := 70) (by decide +kernel))) hs_55 (r_k2 (List.mem_of_getElem? (i := 72) (by decide +kernel))) rfl (by decide +kernel) rfl : e_Sn 52 12 (o_callV (e_s1 10 55 2) 1 15)) t_55_0 t_52_15
noncomputable def n_52_11 : e_Y := u_ld f_okA f_l0 n_52_12
theorem t_52_11 : e_Sn 52 11 (e_un n_52_11) := u_ldAT f_l0_eq (s_aload (i := .aload_n 0) (len := 1) hq_52 (by decide +kernel) rfl (.inr ⟨0, rfl, rfl, rfl⟩) : e_Sn 52 11 (o_load e_okR 0 12)) t_52_12
noncomputable def n_52_8 : e_Y := u_callV 10 54 1 20 1 n_54_0 n_52_11
theorem t_52_8 : e_Sn 52 8 (e_un n_52_8) := u_callVT rfl (s_callV (ci := 10) (C := er_10) (T := et_10) (N := 11) (index := 35) hq_52 ho_52 hy_54 hp_54 hc_54 hi_54 hd_54 (r_k2 (List.mem_of_getElem? (i := 62) (by decide +kernel))) hs_54 (r_k2 (List.mem_of_getElem? (i := 64) (by decide +kernel))) rfl (by decide +kernel) rfl : e_Sn 52 8 (o_callV (e_s1 10 54 1) 1 11)) t_54_0 t_52_11
noncomputable def n_52_7 : e_Y := u_ld f_okA f_l0 n_52_8
theorem t_52_7 : e_Sn 52 7 (e_un n_52_7) := u_ldAT f_l0_eq (s_aload (i := .aload_n 0) (len := 1) hq_52 (by decide +kernel) rfl (.inr ⟨0, rfl, rfl, rfl⟩) : e_Sn 52 7 (o_load e_okR 0 8)) t_52_8
noncomputable def n_52_4 : e_Y := u_callV 5 38 2 21 1 n_38_0 n_52_7
theorem t_52_4 : e_Sn 52 4 (e_un n_52_4) := u_callVT rfl (s_callV (ci := 5) (C := er_5) (T := et_5) (N := 5) (index := 32) hq_52 ho_52 hy_38 hp_38 hc_38 hi_38 hd_38 (r_k2 (List.mem_of_getElem? (i := 58) (by decide +kernel))) hs_38 (r_k2 (List.mem_of_getElem? (i := 60) (by decide +kernel))) rfl (by decide +kernel) rfl : e_Sn 52 4 (o_callV (e_s1 5 38 2) 1 7)) t_38_0 t_52_7
noncomputable def n_52_1 : e_Y := u_getf 10 0 (u_old (o_getf (e_f1 10 0) 4) n_52_4) n_52_4
theorem t_52_1 : e_Sn 52 1 (e_un n_52_1) := u_getfT (s_getf (C := er_10) (T := et_10) (N := 11) (ref := "Plateroomprinter$State") (index := 12) (ci := 10) (k := 0) hq_52 ho_52 ⟨rfl, by decide, ei_10, r_m_1_179, .inl rfl⟩ (by decide +kernel) rfl : e_Sn 52 1 (o_getf (e_f1 10 0) 4)) t_52_4
noncomputable def n_52_0 : e_Y := u_ld f_okA f_l0 n_52_1
theorem t_52_0 : e_Sn 52 0 (e_un n_52_0) := u_ldAT f_l0_eq (s_aload (i := .aload_n 0) (len := 1) hq_52 (by decide +kernel) rfl (.inr ⟨0, rfl, rfl, rfl⟩) : e_Sn 52 0 (o_load e_okR 0 1)) t_52_1
noncomputable def e_tb_52 : e_X := (e_br 17 (e_lf 0 (e_un n_52_0)) (e_lf 17 (e_un n_52_17)))
theorem e_tk_52 : e_Tb 52 e_tb_52 := (e_brT (e_lfT t_52_0) (e_lfT t_52_17))
theorem hq_57 : (e_ml[57]?).map (·.2.1) = some prog_12_method_2_code := Eq.trans (congrArg (Option.map (fun e => e.2.1)) hy_57) rfl
theorem ho_57 : (e_ml[57]?).map (·.1.cls) = some "Plateroomprinter$World" := Eq.trans (congrArg (Option.map (fun e => e.1.cls)) hy_57) rfl
theorem hr_57 : (e_ml[57]?).map (·.2.2.2) = some none := Eq.trans (congrArg (Option.map (fun e => e.2.2.2)) hy_57) rfl
noncomputable def n_57_121 : e_Y := u_retV
theorem t_57_121 : e_Sn 57 121 (e_un n_57_121) := u_retVT (s_vret hq_57 hr_57 (by decide +kernel) : e_Sn 57 121 (o_retv))
noncomputable def n_57_118 : e_Y := u_putf 11 14 f_okI (u_old (o_putf (e_f1 11 14) e_okI 121) n_57_121) n_57_121
theorem t_57_118 : e_Sn 57 118 (e_un n_57_118) := u_putfT (fun _ => f_okI_eq) (s_putf (ty0 := ey_11) (ok := e_okI) (C := er_11) (T := et_11) (N := 15) (ref := "Plateroomprinter$World") (index := 89) (ci := 11) (k := 14) hq_57 ho_57 ⟨rfl, by decide, ei_11, r_m_2_123, .inl rfl⟩ eo_11 en_11 e_oksI (.inl rfl) (by decide +kernel) rfl : e_Sn 57 118 (o_putf (e_f1 11 14) e_okI 121)) t_57_121
noncomputable def n_57_117 : e_Y := u_push (.inl 2147483648) n_57_118
theorem t_57_117 : e_Sn 57 117 (e_un n_57_117) := u_pushT (s_iconst (n := (0)) hq_57 (by decide +kernel) rfl ⟨by decide +kernel, by decide +kernel⟩ : e_Sn 57 117 (o_push (.inl 2147483648) 118)) t_57_118
noncomputable def n_57_116 : e_Y := u_ld f_okA f_l0 n_57_117
theorem t_57_116 : e_Sn 57 116 (e_un n_57_116) := u_ldAT f_l0_eq (s_aload (i := .aload_n 0) (len := 1) hq_57 (by decide +kernel) rfl (.inr ⟨0, rfl, rfl, rfl⟩) : e_Sn 57 116 (o_load e_okR 0 117)) t_57_117
noncomputable def n_57_113 : e_Y := u_putf 11 13 f_okI (u_old (o_putf (e_f1 11 13) e_okI 116) n_57_116) n_57_116
theorem t_57_113 : e_Sn 57 113 (e_un n_57_113) := u_putfT (fun _ => f_okI_eq) (s_putf (ty0 := ey_11) (ok := e_okI) (C := er_11) (T := et_11) (N := 15) (ref := "Plateroomprinter$World") (index := 86) (ci := 11) (k := 13) hq_57 ho_57 ⟨rfl, by decide, ei_11, r_m_2_120, .inl rfl⟩ eo_11 en_11 e_oksI (.inl rfl) (by decide +kernel) rfl : e_Sn 57 113 (o_putf (e_f1 11 13) e_okI 116)) t_57_116
noncomputable def n_57_112 : e_Y := u_push (.inl 2147483648) n_57_113
theorem t_57_112 : e_Sn 57 112 (e_un n_57_112) := u_pushT (s_iconst (n := (0)) hq_57 (by decide +kernel) rfl ⟨by decide +kernel, by decide +kernel⟩ : e_Sn 57 112 (o_push (.inl 2147483648) 113)) t_57_113
noncomputable def n_57_111 : e_Y := u_ld f_okA f_l0 n_57_112
theorem t_57_111 : e_Sn 57 111 (e_un n_57_111) := u_ldAT f_l0_eq (s_aload (i := .aload_n 0) (len := 1) hq_57 (by decide +kernel) rfl (.inr ⟨0, rfl, rfl, rfl⟩) : e_Sn 57 111 (o_load e_okR 0 112)) t_57_112
noncomputable def n_57_108 : e_Y := u_putf 11 12 f_okI (u_old (o_putf (e_f1 11 12) e_okI 111) n_57_111) n_57_111
theorem t_57_108 : e_Sn 57 108 (e_un n_57_108) := u_putfT (fun _ => f_okI_eq) (s_putf (ty0 := ey_11) (ok := e_okI) (C := er_11) (T := et_11) (N := 15) (ref := "Plateroomprinter$World") (index := 83) (ci := 11) (k := 12) hq_57 ho_57 ⟨rfl, by decide, ei_11, r_m_2_117, .inl rfl⟩ eo_11 en_11 e_oksI (.inl rfl) (by decide +kernel) rfl : e_Sn 57 108 (o_putf (e_f1 11 12) e_okI 111)) t_57_111
noncomputable def n_57_107 : e_Y := u_push (.inl 2147483648) n_57_108
theorem t_57_107 : e_Sn 57 107 (e_un n_57_107) := u_pushT (s_iconst (n := (0)) hq_57 (by decide +kernel) rfl ⟨by decide +kernel, by decide +kernel⟩ : e_Sn 57 107 (o_push (.inl 2147483648) 108)) t_57_108
noncomputable def n_57_106 : e_Y := u_ld f_okA f_l0 n_57_107
theorem t_57_106 : e_Sn 57 106 (e_un n_57_106) := u_ldAT f_l0_eq (s_aload (i := .aload_n 0) (len := 1) hq_57 (by decide +kernel) rfl (.inr ⟨0, rfl, rfl, rfl⟩) : e_Sn 57 106 (o_load e_okR 0 107)) t_57_107
noncomputable def n_57_103 : e_Y := (u_at 87)
theorem t_57_103 : e_Sn 57 103 (e_un n_57_103) := u_gotoT (s_goto (off := (-16)) hq_57 (by decide +kernel) rfl : e_Sn 57 103 (o_goto 87)) u_atT
noncomputable def n_57_100 : e_Y := u_inc f_l1 f_s1 1 n_57_103
theorem t_57_100 : e_Sn 57 100 (e_un n_57_100) := u_incT f_l1_eq (fun _ _ _ => f_s1_eq) (s_iinc (zz := (1)) hq_57 (by decide +kernel) rfl (by decide +kernel) ⟨by decide, by decide⟩ : e_Sn 57 100 (o_iinc 1 1 103)) t_57_103
noncomputable def n_57_99 : e_Y := u_ast 0 f_okI (u_old (o_ast 0 e_okI 100) n_57_100) n_57_100
theorem t_57_99 : e_Sn 57 99 (e_un n_57_99) := u_astT (fun _ => f_okI_eq) (s_iast hq_57 (by decide +kernel) rfl : e_Sn 57 99 (o_ast 0 e_okI 100)) t_57_100
noncomputable def n_57_98 : e_Y := u_push (.inl 2147483648) n_57_99
theorem t_57_98 : e_Sn 57 98 (e_un n_57_98) := u_pushT (s_iconst (n := (0)) hq_57 (by decide +kernel) rfl ⟨by decide +kernel, by decide +kernel⟩ : e_Sn 57 98 (o_push (.inl 2147483648) 99)) t_57_99
noncomputable def n_57_97 : e_Y := u_ld f_okI f_l1 n_57_98
theorem t_57_97 : e_Sn 57 97 (e_un n_57_97) := u_ldIT f_l1_eq (s_iload (i := .iload_n 1) (len := 1) hq_57 (by decide +kernel) rfl (.inr ⟨1, rfl, rfl, rfl⟩) : e_Sn 57 97 (o_load e_okI 1 98)) t_57_98
noncomputable def n_57_94 : e_Y := u_getf 11 11 (u_old (o_getf (e_f1 11 11) 97) n_57_97) n_57_97
theorem t_57_94 : e_Sn 57 94 (e_un n_57_94) := u_getfT (s_getf (C := er_11) (T := et_11) (N := 15) (ref := "Plateroomprinter$World") (index := 61) (ci := 11) (k := 11) hq_57 ho_57 ⟨rfl, by decide, ei_11, r_m_2_114, .inl rfl⟩ (by decide +kernel) rfl : e_Sn 57 94 (o_getf (e_f1 11 11) 97)) t_57_97
noncomputable def n_57_93 : e_Y := u_ld f_okA f_l0 n_57_94
theorem t_57_93 : e_Sn 57 93 (e_un n_57_93) := u_ldAT f_l0_eq (s_aload (i := .aload_n 0) (len := 1) hq_57 (by decide +kernel) rfl (.inr ⟨0, rfl, rfl, rfl⟩) : e_Sn 57 93 (o_load e_okR 0 94)) t_57_94
noncomputable def n_57_90 : e_Y := u_jmp y_ge (u_old2 (o_clt 93 106) 93 n_57_93 n_57_106) n_57_93 n_57_106
theorem t_57_90 : e_Sn 57 90 (e_un n_57_90) := u_cltT rfl (s_cge (off := (16)) hq_57 (by decide +kernel) rfl rfl : e_Sn 57 90 (o_clt 93 106)) t_57_93 t_57_106
noncomputable def n_57_88 : e_Y := u_push (.inl 2147483701) n_57_90
theorem t_57_88 : e_Sn 57 88 (e_un n_57_88) := u_pushT (s_bipush (n := (53)) hq_57 (by decide +kernel) rfl ⟨by decide +kernel, by decide +kernel⟩ : e_Sn 57 88 (o_push (.inl 2147483701) 90)) t_57_90
noncomputable def n_57_87 : e_Y := u_ld f_okI f_l1 n_57_88
theorem t_57_87 : e_Sn 57 87 (e_un n_57_87) := u_ldIT f_l1_eq (s_iload (i := .iload_n 1) (len := 1) hq_57 (by decide +kernel) rfl (.inr ⟨1, rfl, rfl, rfl⟩) : e_Sn 57 87 (o_load e_okI 1 88)) t_57_88
noncomputable def n_57_86 : e_Y := u_st f_okI f_s1 n_57_87
theorem t_57_86 : e_Sn 57 86 (e_un n_57_86) := u_stIT (fun _ _ _ => f_s1_eq) (s_istore (i := .istore_n 1) (len := 1) hq_57 (by decide +kernel) rfl (.inr ⟨1, rfl, rfl, rfl⟩) : e_Sn 57 86 (o_store e_okI 1 87)) t_57_87
noncomputable def n_57_85 : e_Y := u_push (.inl 2147483648) n_57_86
theorem t_57_85 : e_Sn 57 85 (e_un n_57_85) := u_pushT (s_iconst (n := (0)) hq_57 (by decide +kernel) rfl ⟨by decide +kernel, by decide +kernel⟩ : e_Sn 57 85 (o_push (.inl 2147483648) 86)) t_57_86
noncomputable def n_57_82 : e_Y := u_putf 11 10 f_okI (u_old (o_putf (e_f1 11 10) e_okI 85) n_57_85) n_57_85
theorem t_57_82 : e_Sn 57 82 (e_un n_57_82) := u_putfT (fun _ => f_okI_eq) (s_putf (ty0 := ey_11) (ok := e_okI) (C := er_11) (T := et_11) (N := 15) (ref := "Plateroomprinter$World") (index := 80) (ci := 11) (k := 10) hq_57 ho_57 ⟨rfl, by decide, ei_11, r_m_2_111, .inl rfl⟩ eo_11 en_11 e_oksI (.inl rfl) (by decide +kernel) rfl : e_Sn 57 82 (o_putf (e_f1 11 10) e_okI 85)) t_57_85
noncomputable def n_57_81 : e_Y := u_push (.inl 2147483648) n_57_82
theorem t_57_81 : e_Sn 57 81 (e_un n_57_81) := u_pushT (s_iconst (n := (0)) hq_57 (by decide +kernel) rfl ⟨by decide +kernel, by decide +kernel⟩ : e_Sn 57 81 (o_push (.inl 2147483648) 82)) t_57_82
noncomputable def n_57_80 : e_Y := u_ld f_okA f_l0 n_57_81
theorem t_57_80 : e_Sn 57 80 (e_un n_57_80) := u_ldAT f_l0_eq (s_aload (i := .aload_n 0) (len := 1) hq_57 (by decide +kernel) rfl (.inr ⟨0, rfl, rfl, rfl⟩) : e_Sn 57 80 (o_load e_okR 0 81)) t_57_81
noncomputable def n_57_77 : e_Y := u_putf 3 4 f_okI (u_old (o_putf (e_f1 3 4) e_okI 80) n_57_80) n_57_80
theorem t_57_77 : e_Sn 57 77 (e_un n_57_77) := u_putfT (fun _ => f_okI_eq) (s_putf (ty0 := ey_3) (ok := e_okI) (C := er_3) (T := et_3) (N := 5) (ref := "Plateroomprinter$Figures") (index := 77) (ci := 3) (k := 4) hq_57 ho_57 ⟨rfl, by decide, ei_3, (r_k2 (List.mem_of_getElem? (i := 24) (by decide +kernel))), .inl rfl⟩ eo_3 en_3 e_oksI (.inl rfl) (by decide +kernel) rfl : e_Sn 57 77 (o_putf (e_f1 3 4) e_okI 80)) t_57_80
noncomputable def n_57_76 : e_Y := u_push (.inl 2147483648) n_57_77
theorem t_57_76 : e_Sn 57 76 (e_un n_57_76) := u_pushT (s_iconst (n := (0)) hq_57 (by decide +kernel) rfl ⟨by decide +kernel, by decide +kernel⟩ : e_Sn 57 76 (o_push (.inl 2147483648) 77)) t_57_77
noncomputable def n_57_73 : e_Y := u_getf 11 9 (u_old (o_getf (e_f1 11 9) 76) n_57_76) n_57_76
theorem t_57_73 : e_Sn 57 73 (e_un n_57_73) := u_getfT (s_getf (C := er_11) (T := et_11) (N := 15) (ref := "Plateroomprinter$World") (index := 57) (ci := 11) (k := 9) hq_57 ho_57 ⟨rfl, by decide, ei_11, r_m_2_108, .inl rfl⟩ (by decide +kernel) rfl : e_Sn 57 73 (o_getf (e_f1 11 9) 76)) t_57_76
noncomputable def n_57_72 : e_Y := u_ld f_okA f_l0 n_57_73
theorem t_57_72 : e_Sn 57 72 (e_un n_57_72) := u_ldAT f_l0_eq (s_aload (i := .aload_n 0) (len := 1) hq_57 (by decide +kernel) rfl (.inr ⟨0, rfl, rfl, rfl⟩) : e_Sn 57 72 (o_load e_okR 0 73)) t_57_73
noncomputable def n_57_69 : e_Y := u_callV 9 49 1 20 1 n_49_0 n_57_72
theorem t_57_69 : e_Sn 57 69 (e_un n_57_69) := u_callVT rfl (s_callV (ci := 9) (C := er_9) (T := et_9) (N := 1) (index := 76) hq_57 ho_57 hy_49 hp_49 hc_49 hi_49 hd_49 r_m_2_75 hs_49 r_m_2_77 rfl (by decide +kernel) rfl : e_Sn 57 69 (o_callV (e_s1 9 49 1) 1 72)) t_49_0 t_57_72
noncomputable def n_57_66 : e_Y := u_getf 11 8 (u_old (o_getf (e_f1 11 8) 69) n_57_69) n_57_69
theorem t_57_66 : e_Sn 57 66 (e_un n_57_66) := u_getfT (s_getf (C := er_11) (T := et_11) (N := 15) (ref := "Plateroomprinter$World") (index := 51) (ci := 11) (k := 8) hq_57 ho_57 ⟨rfl, by decide, ei_11, r_m_2_105, .inl rfl⟩ (by decide +kernel) rfl : e_Sn 57 66 (o_getf (e_f1 11 8) 69)) t_57_69
noncomputable def n_57_65 : e_Y := u_ld f_okA f_l0 n_57_66
theorem t_57_65 : e_Sn 57 65 (e_un n_57_65) := u_ldAT f_l0_eq (s_aload (i := .aload_n 0) (len := 1) hq_57 (by decide +kernel) rfl (.inr ⟨0, rfl, rfl, rfl⟩) : e_Sn 57 65 (o_load e_okR 0 66)) t_57_66
noncomputable def n_57_62 : e_Y := u_callV 9 49 1 20 1 n_49_0 n_57_65
theorem t_57_62 : e_Sn 57 62 (e_un n_57_62) := u_callVT rfl (s_callV (ci := 9) (C := er_9) (T := et_9) (N := 1) (index := 76) hq_57 ho_57 hy_49 hp_49 hc_49 hi_49 hd_49 r_m_2_75 hs_49 r_m_2_77 rfl (by decide +kernel) rfl : e_Sn 57 62 (o_callV (e_s1 9 49 1) 1 65)) t_49_0 t_57_65
noncomputable def n_57_59 : e_Y := u_getf 11 7 (u_old (o_getf (e_f1 11 7) 62) n_57_62) n_57_62
theorem t_57_59 : e_Sn 57 59 (e_un n_57_59) := u_getfT (s_getf (C := er_11) (T := et_11) (N := 15) (ref := "Plateroomprinter$World") (index := 47) (ci := 11) (k := 7) hq_57 ho_57 ⟨rfl, by decide, ei_11, r_m_2_102, .inl rfl⟩ (by decide +kernel) rfl : e_Sn 57 59 (o_getf (e_f1 11 7) 62)) t_57_62
noncomputable def n_57_58 : e_Y := u_ld f_okA f_l0 n_57_59
theorem t_57_58 : e_Sn 57 58 (e_un n_57_58) := u_ldAT f_l0_eq (s_aload (i := .aload_n 0) (len := 1) hq_57 (by decide +kernel) rfl (.inr ⟨0, rfl, rfl, rfl⟩) : e_Sn 57 58 (o_load e_okR 0 59)) t_57_59
noncomputable def n_57_55 : e_Y := (u_at 31)
theorem t_57_55 : e_Sn 57 55 (e_un n_57_55) := u_gotoT (s_goto (off := (-24)) hq_57 (by decide +kernel) rfl : e_Sn 57 55 (o_goto 31)) u_atT
noncomputable def n_57_52 : e_Y := u_inc f_l1 f_s1 1 n_57_55
theorem t_57_52 : e_Sn 57 52 (e_un n_57_52) := u_incT f_l1_eq (fun _ _ _ => f_s1_eq) (s_iinc (zz := (1)) hq_57 (by decide +kernel) rfl (by decide +kernel) ⟨by decide, by decide⟩ : e_Sn 57 52 (o_iinc 1 1 55)) t_57_55
noncomputable def n_57_51 : e_Y := u_ast 0 f_okI (u_old (o_ast 0 e_okI 52) n_57_52) n_57_52
theorem t_57_51 : e_Sn 57 51 (e_un n_57_51) := u_astT (fun _ => f_okI_eq) (s_iast hq_57 (by decide +kernel) rfl : e_Sn 57 51 (o_ast 0 e_okI 52)) t_57_52
noncomputable def n_57_50 : e_Y := u_push (.inl 2147483648) n_57_51
theorem t_57_50 : e_Sn 57 50 (e_un n_57_50) := u_pushT (s_iconst (n := (0)) hq_57 (by decide +kernel) rfl ⟨by decide +kernel, by decide +kernel⟩ : e_Sn 57 50 (o_push (.inl 2147483648) 51)) t_57_51
noncomputable def n_57_49 : e_Y := u_ld f_okI f_l1 n_57_50
theorem t_57_49 : e_Sn 57 49 (e_un n_57_49) := u_ldIT f_l1_eq (s_iload (i := .iload_n 1) (len := 1) hq_57 (by decide +kernel) rfl (.inr ⟨1, rfl, rfl, rfl⟩) : e_Sn 57 49 (o_load e_okI 1 50)) t_57_50
noncomputable def n_57_46 : e_Y := u_getf 11 6 (u_old (o_getf (e_f1 11 6) 49) n_57_49) n_57_49
theorem t_57_46 : e_Sn 57 46 (e_un n_57_46) := u_getfT (s_getf (C := er_11) (T := et_11) (N := 15) (ref := "Plateroomprinter$World") (index := 40) (ci := 11) (k := 6) hq_57 ho_57 ⟨rfl, by decide, ei_11, r_m_2_99, .inl rfl⟩ (by decide +kernel) rfl : e_Sn 57 46 (o_getf (e_f1 11 6) 49)) t_57_49
noncomputable def n_57_45 : e_Y := u_ld f_okA f_l0 n_57_46
theorem t_57_45 : e_Sn 57 45 (e_un n_57_45) := u_ldAT f_l0_eq (s_aload (i := .aload_n 0) (len := 1) hq_57 (by decide +kernel) rfl (.inr ⟨0, rfl, rfl, rfl⟩) : e_Sn 57 45 (o_load e_okR 0 46)) t_57_46
noncomputable def n_57_42 : e_Y := u_callV 7 45 1 20 1 n_45_0 n_57_45
theorem t_57_42 : e_Sn 57 42 (e_un n_57_42) := u_callVT rfl (s_callV (ci := 7) (C := er_7) (T := et_7) (N := 6) (index := 75) hq_57 ho_57 hy_45 hp_45 hc_45 hi_45 hd_45 (r_k2 (List.mem_of_getElem? (i := 74) (by decide +kernel))) hs_45 r_m_2_68 rfl (by decide +kernel) rfl : e_Sn 57 42 (o_callV (e_s1 7 45 1) 1 45)) t_45_0 t_57_45
noncomputable def n_57_41 : e_Y := u_ald 4 (u_old (o_aldO 4 42) n_57_42) n_57_42
theorem t_57_41 : e_Sn 57 41 (e_un n_57_41) := u_aldOT (s_aald (tc := 1) rfl hq_57 (by decide +kernel) rfl : e_Sn 57 41 (o_aldO 4 42)) t_57_42
noncomputable def n_57_40 : e_Y := u_ld f_okI f_l1 n_57_41
theorem t_57_40 : e_Sn 57 40 (e_un n_57_40) := u_ldIT f_l1_eq (s_iload (i := .iload_n 1) (len := 1) hq_57 (by decide +kernel) rfl (.inr ⟨1, rfl, rfl, rfl⟩) : e_Sn 57 40 (o_load e_okI 1 41)) t_57_41
noncomputable def n_57_37 : e_Y := u_getf 11 5 (u_old (o_getf (e_f1 11 5) 40) n_57_40) n_57_40
theorem t_57_37 : e_Sn 57 37 (e_un n_57_37) := u_getfT (s_getf (C := er_11) (T := et_11) (N := 15) (ref := "Plateroomprinter$World") (index := 36) (ci := 11) (k := 5) hq_57 ho_57 ⟨rfl, by decide, ei_11, r_m_2_96, .inl rfl⟩ (by decide +kernel) rfl : e_Sn 57 37 (o_getf (e_f1 11 5) 40)) t_57_40
noncomputable def n_57_36 : e_Y := u_ld f_okA f_l0 n_57_37
theorem t_57_36 : e_Sn 57 36 (e_un n_57_36) := u_ldAT f_l0_eq (s_aload (i := .aload_n 0) (len := 1) hq_57 (by decide +kernel) rfl (.inr ⟨0, rfl, rfl, rfl⟩) : e_Sn 57 36 (o_load e_okR 0 37)) t_57_37
noncomputable def n_57_33 : e_Y := u_jmp y_ge (u_old2 (o_clt 36 58) 36 n_57_36 n_57_58) n_57_36 n_57_58
theorem t_57_33 : e_Sn 57 33 (e_un n_57_33) := u_cltT rfl (s_cge (off := (25)) hq_57 (by decide +kernel) rfl rfl : e_Sn 57 33 (o_clt 36 58)) t_57_36 t_57_58
noncomputable def n_57_32 : e_Y := u_push (.inl 2147483653) n_57_33
theorem t_57_32 : e_Sn 57 32 (e_un n_57_32) := u_pushT (s_iconst (n := (5)) hq_57 (by decide +kernel) rfl ⟨by decide +kernel, by decide +kernel⟩ : e_Sn 57 32 (o_push (.inl 2147483653) 33)) t_57_33
noncomputable def n_57_31 : e_Y := u_ld f_okI f_l1 n_57_32
theorem t_57_31 : e_Sn 57 31 (e_un n_57_31) := u_ldIT f_l1_eq (s_iload (i := .iload_n 1) (len := 1) hq_57 (by decide +kernel) rfl (.inr ⟨1, rfl, rfl, rfl⟩) : e_Sn 57 31 (o_load e_okI 1 32)) t_57_32
noncomputable def n_57_30 : e_Y := u_st f_okI f_s1 n_57_31
theorem t_57_30 : e_Sn 57 30 (e_un n_57_30) := u_stIT (fun _ _ _ => f_s1_eq) (s_istore (i := .istore_n 1) (len := 1) hq_57 (by decide +kernel) rfl (.inr ⟨1, rfl, rfl, rfl⟩) : e_Sn 57 30 (o_store e_okI 1 31)) t_57_31
noncomputable def n_57_29 : e_Y := u_push (.inl 2147483648) n_57_30
theorem t_57_29 : e_Sn 57 29 (e_un n_57_29) := u_pushT (s_iconst (n := (0)) hq_57 (by decide +kernel) rfl ⟨by decide +kernel, by decide +kernel⟩ : e_Sn 57 29 (o_push (.inl 2147483648) 30)) t_57_30
noncomputable def n_57_26 : e_Y := u_putf 11 4 f_okI (u_old (o_putf (e_f1 11 4) e_okI 29) n_57_29) n_57_29
theorem t_57_26 : e_Sn 57 26 (e_un n_57_26) := u_putfT (fun _ => f_okI_eq) (s_putf (ty0 := ey_11) (ok := e_okI) (C := er_11) (T := et_11) (N := 15) (ref := "Plateroomprinter$World") (index := 71) (ci := 11) (k := 4) hq_57 ho_57 ⟨rfl, by decide, ei_11, r_m_2_93, .inl rfl⟩ eo_11 en_11 e_oksI (.inl rfl) (by decide +kernel) rfl : e_Sn 57 26 (o_putf (e_f1 11 4) e_okI 29)) t_57_29
noncomputable def n_57_25 : e_Y := u_push (.inl 2147483648) n_57_26
theorem t_57_25 : e_Sn 57 25 (e_un n_57_25) := u_pushT (s_iconst (n := (0)) hq_57 (by decide +kernel) rfl ⟨by decide +kernel, by decide +kernel⟩ : e_Sn 57 25 (o_push (.inl 2147483648) 26)) t_57_26
noncomputable def n_57_24 : e_Y := u_ld f_okA f_l0 n_57_25
theorem t_57_24 : e_Sn 57 24 (e_un n_57_24) := u_ldAT f_l0_eq (s_aload (i := .aload_n 0) (len := 1) hq_57 (by decide +kernel) rfl (.inr ⟨0, rfl, rfl, rfl⟩) : e_Sn 57 24 (o_load e_okR 0 25)) t_57_25
noncomputable def n_57_21 : e_Y := u_callV 10 52 2 21 1 n_52_0 n_57_24
theorem t_57_21 : e_Sn 57 21 (e_un n_57_21) := u_callVT rfl (s_callV (ci := 10) (C := er_10) (T := et_10) (N := 11) (index := 70) hq_57 ho_57 hy_52 hp_52 hc_52 hi_52 hd_52 (r_k2 (List.mem_of_getElem? (i := 54) (by decide +kernel))) hs_52 (r_k2 (List.mem_of_getElem? (i := 56) (by decide +kernel))) rfl (by decide +kernel) rfl : e_Sn 57 21 (o_callV (e_s1 10 52 2) 1 24)) t_52_0 t_57_24
noncomputable def n_57_18 : e_Y := u_getf 11 2 (u_old (o_getf (e_f1 11 2) 21) n_57_21) n_57_21
theorem t_57_18 : e_Sn 57 18 (e_un n_57_18) := u_getfT (s_getf (C := er_11) (T := et_11) (N := 15) (ref := "Plateroomprinter$World") (index := 26) (ci := 11) (k := 2) hq_57 ho_57 ⟨rfl, by decide, ei_11, r_m_2_88, .inl rfl⟩ (by decide +kernel) rfl : e_Sn 57 18 (o_getf (e_f1 11 2) 21)) t_57_21
noncomputable def n_57_17 : e_Y := u_ld f_okA f_l0 n_57_18
theorem t_57_17 : e_Sn 57 17 (e_un n_57_17) := u_ldAT f_l0_eq (s_aload (i := .aload_n 0) (len := 1) hq_57 (by decide +kernel) rfl (.inr ⟨0, rfl, rfl, rfl⟩) : e_Sn 57 17 (o_load e_okR 0 18)) t_57_18
noncomputable def n_57_14 : e_Y := u_callV 4 30 3 22 2 n_30_0 n_57_17
theorem t_57_14 : e_Sn 57 14 (e_un n_57_14) := u_callVT rfl (s_callV (ci := 4) (C := er_4) (T := et_4) (N := 5) (index := 68) hq_57 ho_57 hy_30 hp_30 hc_30 hi_30 hd_30 r_m_2_43 hs_30 r_m_2_45 rfl (by decide +kernel) rfl : e_Sn 57 14 (o_callV (e_s1 4 30 3) 2 17)) t_30_0 t_57_17
noncomputable def n_57_12 : e_Y := u_push (.inl 2147483658) n_57_14
theorem t_57_12 : e_Sn 57 12 (e_un n_57_12) := u_pushT (s_bipush (n := (10)) hq_57 (by decide +kernel) rfl ⟨by decide +kernel, by decide +kernel⟩ : e_Sn 57 12 (o_push (.inl 2147483658) 14)) t_57_14
noncomputable def n_57_9 : e_Y := u_getf 11 1 (u_old (o_getf (e_f1 11 1) 12) n_57_12) n_57_12
theorem t_57_9 : e_Sn 57 9 (e_un n_57_9) := u_getfT (s_getf (C := er_11) (T := et_11) (N := 15) (ref := "Plateroomprinter$World") (index := 20) (ci := 11) (k := 1) hq_57 ho_57 ⟨rfl, by decide, ei_11, r_m_2_85, .inl rfl⟩ (by decide +kernel) rfl : e_Sn 57 9 (o_getf (e_f1 11 1) 12)) t_57_12
noncomputable def n_57_8 : e_Y := u_ld f_okA f_l0 n_57_9
theorem t_57_8 : e_Sn 57 8 (e_un n_57_8) := u_ldAT f_l0_eq (s_aload (i := .aload_n 0) (len := 1) hq_57 (by decide +kernel) rfl (.inr ⟨0, rfl, rfl, rfl⟩) : e_Sn 57 8 (o_load e_okR 0 9)) t_57_9
noncomputable def n_57_5 : e_Y := u_callV 4 30 3 22 2 n_30_0 n_57_8
theorem t_57_5 : e_Sn 57 5 (e_un n_57_5) := u_callVT rfl (s_callV (ci := 4) (C := er_4) (T := et_4) (N := 5) (index := 68) hq_57 ho_57 hy_30 hp_30 hc_30 hi_30 hd_30 r_m_2_43 hs_30 r_m_2_45 rfl (by decide +kernel) rfl : e_Sn 57 5 (o_callV (e_s1 4 30 3) 2 8)) t_30_0 t_57_8
noncomputable def n_57_4 : e_Y := u_push (.inl 2147483648) n_57_5
theorem t_57_4 : e_Sn 57 4 (e_un n_57_4) := u_pushT (s_iconst (n := (0)) hq_57 (by decide +kernel) rfl ⟨by decide +kernel, by decide +kernel⟩ : e_Sn 57 4 (o_push (.inl 2147483648) 5)) t_57_5
noncomputable def n_57_1 : e_Y := u_getf 11 0 (u_old (o_getf (e_f1 11 0) 4) n_57_4) n_57_4
theorem t_57_1 : e_Sn 57 1 (e_un n_57_1) := u_getfT (s_getf (C := er_11) (T := et_11) (N := 15) (ref := "Plateroomprinter$World") (index := 14) (ci := 11) (k := 0) hq_57 ho_57 ⟨rfl, by decide, ei_11, r_m_2_82, .inl rfl⟩ (by decide +kernel) rfl : e_Sn 57 1 (o_getf (e_f1 11 0) 4)) t_57_4
noncomputable def n_57_0 : e_Y := u_ld f_okA f_l0 n_57_1
theorem t_57_0 : e_Sn 57 0 (e_un n_57_0) := u_ldAT f_l0_eq (s_aload (i := .aload_n 0) (len := 1) hq_57 (by decide +kernel) rfl (.inr ⟨0, rfl, rfl, rfl⟩) : e_Sn 57 0 (o_load e_okR 0 1)) t_57_1
noncomputable def e_tb_57 : e_X := (e_br 31 (e_lf 0 (e_un n_57_0)) (e_br 87 (e_lf 31 (e_un n_57_31)) (e_lf 87 (e_un n_57_87))))
theorem e_tk_57 : e_Tb 57 e_tb_57 := (e_brT (e_lfT t_57_0) (e_brT (e_lfT t_57_31) (e_lfT t_57_87)))
theorem hq_56 : (e_ml[56]?).map (·.2.1) = some prog_12_method_1_code := Eq.trans (congrArg (Option.map (fun e => e.2.1)) hy_56) rfl
theorem ho_56 : (e_ml[56]?).map (·.1.cls) = some "Plateroomprinter$World" := Eq.trans (congrArg (Option.map (fun e => e.1.cls)) hy_56) rfl
theorem hr_56 : (e_ml[56]?).map (·.2.2.2) = some none := Eq.trans (congrArg (Option.map (fun e => e.2.2.2)) hy_56) rfl
noncomputable def n_56_163 : e_Y := u_retV
theorem t_56_163 : e_Sn 56 163 (e_un n_56_163) := u_retVT (s_vret hq_56 hr_56 (by decide +kernel) : e_Sn 56 163 (o_retv))
noncomputable def n_56_160 : e_Y := u_callV 11 57 2 21 1 n_57_0 n_56_163
theorem t_56_160 : e_Sn 56 160 (e_un n_56_160) := u_callVT rfl (s_callV (ci := 11) (C := er_11) (T := et_11) (N := 15) (index := 65) hq_56 ho_56 hy_57 hp_57 hc_57 hi_57 hd_57 (r_k2 (List.mem_of_getElem? (i := 39) (by decide +kernel))) hs_57 (r_k2 (List.mem_of_getElem? (i := 41) (by decide +kernel))) rfl (by decide +kernel) rfl : e_Sn 56 160 (o_callV (e_s1 11 57 2) 1 163)) t_57_0 t_56_163
noncomputable def n_56_159 : e_Y := u_ld f_okA f_l0 n_56_160
theorem t_56_159 : e_Sn 56 159 (e_un n_56_159) := u_ldAT f_l0_eq (s_aload (i := .aload_n 0) (len := 1) hq_56 (by decide +kernel) rfl (.inr ⟨0, rfl, rfl, rfl⟩) : e_Sn 56 159 (o_load e_okR 0 160)) t_56_160
noncomputable def n_56_156 : e_Y := (u_at 135)
theorem t_56_156 : e_Sn 56 156 (e_un n_56_156) := u_gotoT (s_goto (off := (-21)) hq_56 (by decide +kernel) rfl : e_Sn 56 156 (o_goto 135)) u_atT
noncomputable def n_56_153 : e_Y := u_inc f_l1 f_s1 1 n_56_156
theorem t_56_153 : e_Sn 56 153 (e_un n_56_153) := u_incT f_l1_eq (fun _ _ _ => f_s1_eq) (s_iinc (zz := (1)) hq_56 (by decide +kernel) rfl (by decide +kernel) ⟨by decide, by decide⟩ : e_Sn 56 153 (o_iinc 1 1 156)) t_56_156
noncomputable def n_56_152 : e_Y := u_old (o_astR 4 (fun k => Nat.beq k 7) 153) n_56_153
theorem t_56_152 : e_Sn 56 152 (e_un n_56_152) := u_oldT (s_aast (tc := 1) (E := "Plateroomprinter$Path") hq_56 rfl (by decide) (fun k hk => by obtain rfl := Nat.eq_of_beq_eq_true hk; exact ⟨er_7, rfl, .inl ⟨rfl, by decide⟩⟩) (by decide +kernel) rfl : e_Sn 56 152 (o_astR 4 (fun k => Nat.beq k 7) 153)) t_56_153 (e_cg_astR 4 (fun k => Nat.beq k 7))
noncomputable def n_56_149 : e_Y := u_callI 44 1 20 1 n_44_0 n_56_152
theorem t_56_149 : e_Sn 56 149 (e_un n_56_149) := u_callIT rfl (s_callIN (host := "Plateroomprinter") (index := 64) hq_56 ho_56 hy_44 hp_44 hc_44 hi_44 hd_44 (r_k2 (List.mem_of_getElem? (i := 38) (by decide +kernel))) rfl rfl hs_44 (by decide +kernel) rfl : e_Sn 56 149 (o_callI 44 1 1 152)) t_44_0 t_56_152
noncomputable def n_56_148 : e_Y := u_old (o_dup 149) n_56_149
theorem t_56_148 : e_Sn 56 148 (e_un n_56_148) := u_oldT (s_dup hq_56 (by decide +kernel) rfl : e_Sn 56 148 (o_dup 149)) t_56_149 e_cg_dup
noncomputable def n_56_145 : e_Y := u_tab (o_new 7 6 ef_7 148)
theorem t_56_145 : e_Sn 56 145 (e_un n_56_145) := u_tabT (s_new (index := 34) (ci := 7) (N := 6) (C := er_7) (T := et_7) (ty0 := ey_7) (fv := eg_7) hq_56 ho_56 rfl ei_7 eo_7 r_m_1_236 r_m_1_144 r_m_1_8 eh_7 rfl (e_newrel ek_7) (by decide +kernel) rfl : e_Sn 56 145 (o_new 7 6 ef_7 148))
noncomputable def n_56_144 : e_Y := u_ld f_okI f_l1 n_56_145
theorem t_56_144 : e_Sn 56 144 (e_un n_56_144) := u_ldIT f_l1_eq (s_iload (i := .iload_n 1) (len := 1) hq_56 (by decide +kernel) rfl (.inr ⟨1, rfl, rfl, rfl⟩) : e_Sn 56 144 (o_load e_okI 1 145)) t_56_145
noncomputable def n_56_141 : e_Y := u_getf 11 5 (u_old (o_getf (e_f1 11 5) 144) n_56_144) n_56_144
theorem t_56_141 : e_Sn 56 141 (e_un n_56_141) := u_getfT (s_getf (C := er_11) (T := et_11) (N := 15) (ref := "Plateroomprinter$World") (index := 36) (ci := 11) (k := 5) hq_56 ho_56 ⟨rfl, by decide, ei_11, r_m_2_96, .inl rfl⟩ (by decide +kernel) rfl : e_Sn 56 141 (o_getf (e_f1 11 5) 144)) t_56_144
noncomputable def n_56_140 : e_Y := u_ld f_okA f_l0 n_56_141
theorem t_56_140 : e_Sn 56 140 (e_un n_56_140) := u_ldAT f_l0_eq (s_aload (i := .aload_n 0) (len := 1) hq_56 (by decide +kernel) rfl (.inr ⟨0, rfl, rfl, rfl⟩) : e_Sn 56 140 (o_load e_okR 0 141)) t_56_141
noncomputable def n_56_137 : e_Y := u_jmp y_ge (u_old2 (o_clt 140 159) 140 n_56_140 n_56_159) n_56_140 n_56_159
theorem t_56_137 : e_Sn 56 137 (e_un n_56_137) := u_cltT rfl (s_cge (off := (22)) hq_56 (by decide +kernel) rfl rfl : e_Sn 56 137 (o_clt 140 159)) t_56_140 t_56_159
noncomputable def n_56_136 : e_Y := u_push (.inl 2147483653) n_56_137
theorem t_56_136 : e_Sn 56 136 (e_un n_56_136) := u_pushT (s_iconst (n := (5)) hq_56 (by decide +kernel) rfl ⟨by decide +kernel, by decide +kernel⟩ : e_Sn 56 136 (o_push (.inl 2147483653) 137)) t_56_137
noncomputable def n_56_135 : e_Y := u_ld f_okI f_l1 n_56_136
theorem t_56_135 : e_Sn 56 135 (e_un n_56_135) := u_ldIT f_l1_eq (s_iload (i := .iload_n 1) (len := 1) hq_56 (by decide +kernel) rfl (.inr ⟨1, rfl, rfl, rfl⟩) : e_Sn 56 135 (o_load e_okI 1 136)) t_56_136
noncomputable def n_56_134 : e_Y := u_st f_okI f_s1 n_56_135
theorem t_56_134 : e_Sn 56 134 (e_un n_56_134) := u_stIT (fun _ _ _ => f_s1_eq) (s_istore (i := .istore_n 1) (len := 1) hq_56 (by decide +kernel) rfl (.inr ⟨1, rfl, rfl, rfl⟩) : e_Sn 56 134 (o_store e_okI 1 135)) t_56_135
noncomputable def n_56_133 : e_Y := u_push (.inl 2147483648) n_56_134
theorem t_56_133 : e_Sn 56 133 (e_un n_56_133) := u_pushT (s_iconst (n := (0)) hq_56 (by decide +kernel) rfl ⟨by decide +kernel, by decide +kernel⟩ : e_Sn 56 133 (o_push (.inl 2147483648) 134)) t_56_134
noncomputable def n_56_130 : e_Y := (u_at 108)
theorem t_56_130 : e_Sn 56 130 (e_un n_56_130) := u_gotoT (s_goto (off := (-22)) hq_56 (by decide +kernel) rfl : e_Sn 56 130 (o_goto 108)) u_atT
noncomputable def n_56_127 : e_Y := u_inc f_l1 f_s1 1 n_56_130
theorem t_56_127 : e_Sn 56 127 (e_un n_56_127) := u_incT f_l1_eq (fun _ _ _ => f_s1_eq) (s_iinc (zz := (1)) hq_56 (by decide +kernel) rfl (by decide +kernel) ⟨by decide, by decide⟩ : e_Sn 56 127 (o_iinc 1 1 130)) t_56_130
noncomputable def n_56_126 : e_Y := u_old (o_astR 5 (fun k => Nat.beq k 10) 127) n_56_127
theorem t_56_126 : e_Sn 56 126 (e_un n_56_126) := u_oldT (s_aast (tc := 2) (E := "Plateroomprinter$State") hq_56 rfl (by decide) (fun k hk => by obtain rfl := Nat.eq_of_beq_eq_true hk; exact ⟨er_10, rfl, .inl ⟨rfl, by decide⟩⟩) (by decide +kernel) rfl : e_Sn 56 126 (o_astR 5 (fun k => Nat.beq k 10) 127)) t_56_127 (e_cg_astR 5 (fun k => Nat.beq k 10))
noncomputable def n_56_123 : e_Y := u_callI 51 1 20 1 n_51_0 n_56_126
theorem t_56_123 : e_Sn 56 123 (e_un n_56_123) := u_callIT rfl (s_callIN (host := "Plateroomprinter") (index := 25) hq_56 ho_56 hy_51 hp_51 hc_51 hi_51 hd_51 r_m_1_114 rfl rfl hs_51 (by decide +kernel) rfl : e_Sn 56 123 (o_callI 51 1 1 126)) t_51_0 t_56_126
noncomputable def n_56_122 : e_Y := u_old (o_dup 123) n_56_123
theorem t_56_122 : e_Sn 56 122 (e_un n_56_122) := u_oldT (s_dup hq_56 (by decide +kernel) rfl : e_Sn 56 122 (o_dup 123)) t_56_123 e_cg_dup
noncomputable def n_56_119 : e_Y := u_tab (o_new 10 11 ef_10 122)
theorem t_56_119 : e_Sn 56 119 (e_un n_56_119) := u_tabT (s_new (index := 23) (ci := 10) (N := 11) (C := er_10) (T := et_10) (ty0 := ey_10) (fv := eg_10) hq_56 ho_56 rfl ei_10 eo_10 r_m_1_112 r_m_1_113 r_m_1_6 eh_10 rfl (e_newrel ek_10) (by decide +kernel) rfl : e_Sn 56 119 (o_new 10 11 ef_10 122))
noncomputable def n_56_118 : e_Y := u_ld f_okI f_l1 n_56_119
theorem t_56_118 : e_Sn 56 118 (e_un n_56_118) := u_ldIT f_l1_eq (s_iload (i := .iload_n 1) (len := 1) hq_56 (by decide +kernel) rfl (.inr ⟨1, rfl, rfl, rfl⟩) : e_Sn 56 118 (o_load e_okI 1 119)) t_56_119
noncomputable def n_56_115 : e_Y := u_getf 11 3 (u_old (o_getf (e_f1 11 3) 118) n_56_118) n_56_118
theorem t_56_115 : e_Sn 56 115 (e_un n_56_115) := u_getfT (s_getf (C := er_11) (T := et_11) (N := 15) (ref := "Plateroomprinter$World") (index := 30) (ci := 11) (k := 3) hq_56 ho_56 ⟨rfl, by decide, ei_11, r_m_2_91, .inl rfl⟩ (by decide +kernel) rfl : e_Sn 56 115 (o_getf (e_f1 11 3) 118)) t_56_118
noncomputable def n_56_114 : e_Y := u_ld f_okA f_l0 n_56_115
theorem t_56_114 : e_Sn 56 114 (e_un n_56_114) := u_ldAT f_l0_eq (s_aload (i := .aload_n 0) (len := 1) hq_56 (by decide +kernel) rfl (.inr ⟨0, rfl, rfl, rfl⟩) : e_Sn 56 114 (o_load e_okR 0 115)) t_56_115
noncomputable def n_56_111 : e_Y := u_jmp y_ge (u_old2 (o_clt 114 133) 114 n_56_114 n_56_133) n_56_114 n_56_133
theorem t_56_111 : e_Sn 56 111 (e_un n_56_111) := u_cltT rfl (s_cge (off := (22)) hq_56 (by decide +kernel) rfl rfl : e_Sn 56 111 (o_clt 114 133)) t_56_114 t_56_133
noncomputable def n_56_109 : e_Y := u_push (.inl 2147483656) n_56_111
theorem t_56_109 : e_Sn 56 109 (e_un n_56_109) := u_pushT (s_bipush (n := (8)) hq_56 (by decide +kernel) rfl ⟨by decide +kernel, by decide +kernel⟩ : e_Sn 56 109 (o_push (.inl 2147483656) 111)) t_56_111
noncomputable def n_56_108 : e_Y := u_ld f_okI f_l1 n_56_109
theorem t_56_108 : e_Sn 56 108 (e_un n_56_108) := u_ldIT f_l1_eq (s_iload (i := .iload_n 1) (len := 1) hq_56 (by decide +kernel) rfl (.inr ⟨1, rfl, rfl, rfl⟩) : e_Sn 56 108 (o_load e_okI 1 109)) t_56_109
noncomputable def n_56_107 : e_Y := u_st f_okI f_s1 n_56_108
theorem t_56_107 : e_Sn 56 107 (e_un n_56_107) := u_stIT (fun _ _ _ => f_s1_eq) (s_istore (i := .istore_n 1) (len := 1) hq_56 (by decide +kernel) rfl (.inr ⟨1, rfl, rfl, rfl⟩) : e_Sn 56 107 (o_store e_okI 1 108)) t_56_108
noncomputable def n_56_106 : e_Y := u_push (.inl 2147483648) n_56_107
theorem t_56_106 : e_Sn 56 106 (e_un n_56_106) := u_pushT (s_iconst (n := (0)) hq_56 (by decide +kernel) rfl ⟨by decide +kernel, by decide +kernel⟩ : e_Sn 56 106 (o_push (.inl 2147483648) 107)) t_56_107
noncomputable def n_56_103 : e_Y := u_putf 11 11 f_okA (u_old (o_putf (e_f1 11 11) e_okR 106) n_56_106) n_56_106
theorem t_56_103 : e_Sn 56 103 (e_un n_56_103) := u_putfT (fun _ => f_okA_eq) (s_putf (ty0 := ey_11) (ok := e_okR) (C := er_11) (T := et_11) (N := 15) (ref := "Plateroomprinter$World") (index := 61) (ci := 11) (k := 11) hq_56 ho_56 ⟨rfl, by decide, ei_11, r_m_2_114, .inl rfl⟩ eo_11 en_11 e_oksA (.inr ⟨rfl, rfl, rfl⟩) (by decide +kernel) rfl : e_Sn 56 103 (o_putf (e_f1 11 11) e_okR 106)) t_56_106
noncomputable def n_56_101 : e_Y := u_tab (o_newa 0 (e_I 2147483648) 103)
theorem t_56_101 : e_Sn 56 101 (e_un n_56_101) := u_tabT (s_newI r_m_1_78 hq_56 (by decide +kernel) rfl : e_Sn 56 101 (o_newa 0 (e_I 2147483648) 103))
noncomputable def n_56_99 : e_Y := u_push (.inl 2147483701) n_56_101
theorem t_56_99 : e_Sn 56 99 (e_un n_56_99) := u_pushT (s_bipush (n := (53)) hq_56 (by decide +kernel) rfl ⟨by decide +kernel, by decide +kernel⟩ : e_Sn 56 99 (o_push (.inl 2147483701) 101)) t_56_101
noncomputable def n_56_98 : e_Y := u_ld f_okA f_l0 n_56_99
theorem t_56_98 : e_Sn 56 98 (e_un n_56_98) := u_ldAT f_l0_eq (s_aload (i := .aload_n 0) (len := 1) hq_56 (by decide +kernel) rfl (.inr ⟨0, rfl, rfl, rfl⟩) : e_Sn 56 98 (o_load e_okR 0 99)) t_56_99
noncomputable def n_56_95 : e_Y := u_putf 11 9 f_okA (u_old (o_putf (e_f1 11 9) e_okR 98) n_56_98) n_56_98
theorem t_56_95 : e_Sn 56 95 (e_un n_56_95) := u_putfT (fun _ => f_okA_eq) (s_putf (ty0 := ey_11) (ok := e_okR) (C := er_11) (T := et_11) (N := 15) (ref := "Plateroomprinter$World") (index := 57) (ci := 11) (k := 9) hq_56 ho_56 ⟨rfl, by decide, ei_11, r_m_2_108, .inl rfl⟩ eo_11 en_11 e_oksR (.inr ⟨rfl, rfl, rfl⟩) (by decide +kernel) rfl : e_Sn 56 95 (o_putf (e_f1 11 9) e_okR 98)) t_56_98
noncomputable def n_56_92 : e_Y := u_callI 27 1 20 1 n_27_0 n_56_95
theorem t_56_92 : e_Sn 56 92 (e_un n_56_92) := u_callIT rfl (s_callIN (host := "Plateroomprinter") (index := 56) hq_56 ho_56 hy_27 hp_27 hc_27 hi_27 hd_27 (r_k2 (List.mem_of_getElem? (i := 11) (by decide +kernel))) rfl rfl hs_27 (by decide +kernel) rfl : e_Sn 56 92 (o_callI 27 1 1 95)) t_27_0 t_56_95
noncomputable def n_56_91 : e_Y := u_old (o_dup 92) n_56_92
theorem t_56_91 : e_Sn 56 91 (e_un n_56_91) := u_oldT (s_dup hq_56 (by decide +kernel) rfl : e_Sn 56 91 (o_dup 92)) t_56_92 e_cg_dup
noncomputable def n_56_88 : e_Y := u_tab (o_new 3 5 ef_3 91)
theorem t_56_88 : e_Sn 56 88 (e_un n_56_88) := u_tabT (s_new (index := 54) (ci := 3) (N := 5) (C := er_3) (T := et_3) (ty0 := ey_3) (fv := eg_3) hq_56 ho_56 rfl ei_3 eo_3 (r_k2 (List.mem_of_getElem? (i := 9) (by decide +kernel))) (r_k2 (List.mem_of_getElem? (i := 10) (by decide +kernel))) r_m_1_10 eh_3 rfl (e_newrel ek_3) (by decide +kernel) rfl : e_Sn 56 88 (o_new 3 5 ef_3 91))
noncomputable def n_56_87 : e_Y := u_ld f_okA f_l0 n_56_88
theorem t_56_87 : e_Sn 56 87 (e_un n_56_87) := u_ldAT f_l0_eq (s_aload (i := .aload_n 0) (len := 1) hq_56 (by decide +kernel) rfl (.inr ⟨0, rfl, rfl, rfl⟩) : e_Sn 56 87 (o_load e_okR 0 88)) t_56_88
noncomputable def n_56_84 : e_Y := u_putf 11 8 f_okA (u_old (o_putf (e_f1 11 8) e_okR 87) n_56_87) n_56_87
theorem t_56_84 : e_Sn 56 84 (e_un n_56_84) := u_putfT (fun _ => f_okA_eq) (s_putf (ty0 := ey_11) (ok := e_okR) (C := er_11) (T := et_11) (N := 15) (ref := "Plateroomprinter$World") (index := 51) (ci := 11) (k := 8) hq_56 ho_56 ⟨rfl, by decide, ei_11, r_m_2_105, .inl rfl⟩ eo_11 en_11 e_oksR (.inr ⟨rfl, rfl, rfl⟩) (by decide +kernel) rfl : e_Sn 56 84 (o_putf (e_f1 11 8) e_okR 87)) t_56_87
noncomputable def n_56_81 : e_Y := u_callI 48 1 20 1 n_48_0 n_56_84
theorem t_56_81 : e_Sn 56 81 (e_un n_56_81) := u_callIT rfl (s_callIN (host := "Plateroomprinter") (index := 46) hq_56 ho_56 hy_48 hp_48 hc_48 hi_48 hd_48 r_m_2_0 rfl rfl hs_48 (by decide +kernel) rfl : e_Sn 56 81 (o_callI 48 1 1 84)) t_48_0 t_56_84
noncomputable def n_56_80 : e_Y := u_old (o_dup 81) n_56_81
theorem t_56_80 : e_Sn 56 80 (e_un n_56_80) := u_oldT (s_dup hq_56 (by decide +kernel) rfl : e_Sn 56 80 (o_dup 81)) t_56_81 e_cg_dup
noncomputable def n_56_77 : e_Y := u_tab (o_new 9 1 ef_9 80)
theorem t_56_77 : e_Sn 56 77 (e_un n_56_77) := u_tabT (s_new (index := 44) (ci := 9) (N := 1) (C := er_9) (T := et_9) (ty0 := ey_9) (fv := eg_9) hq_56 ho_56 rfl ei_9 eo_9 r_m_1_238 r_m_1_239 r_m_1_9 eh_9 rfl (e_newrel ek_9) (by decide +kernel) rfl : e_Sn 56 77 (o_new 9 1 ef_9 80))
noncomputable def n_56_76 : e_Y := u_ld f_okA f_l0 n_56_77
theorem t_56_76 : e_Sn 56 76 (e_un n_56_76) := u_ldAT f_l0_eq (s_aload (i := .aload_n 0) (len := 1) hq_56 (by decide +kernel) rfl (.inr ⟨0, rfl, rfl, rfl⟩) : e_Sn 56 76 (o_load e_okR 0 77)) t_56_77
noncomputable def n_56_73 : e_Y := u_putf 11 7 f_okA (u_old (o_putf (e_f1 11 7) e_okR 76) n_56_76) n_56_76
theorem t_56_73 : e_Sn 56 73 (e_un n_56_73) := u_putfT (fun _ => f_okA_eq) (s_putf (ty0 := ey_11) (ok := e_okR) (C := er_11) (T := et_11) (N := 15) (ref := "Plateroomprinter$World") (index := 47) (ci := 11) (k := 7) hq_56 ho_56 ⟨rfl, by decide, ei_11, r_m_2_102, .inl rfl⟩ eo_11 en_11 e_oksR (.inr ⟨rfl, rfl, rfl⟩) (by decide +kernel) rfl : e_Sn 56 73 (o_putf (e_f1 11 7) e_okR 76)) t_56_76
noncomputable def n_56_70 : e_Y := u_callI 48 1 20 1 n_48_0 n_56_73
theorem t_56_70 : e_Sn 56 70 (e_un n_56_70) := u_callIT rfl (s_callIN (host := "Plateroomprinter") (index := 46) hq_56 ho_56 hy_48 hp_48 hc_48 hi_48 hd_48 r_m_2_0 rfl rfl hs_48 (by decide +kernel) rfl : e_Sn 56 70 (o_callI 48 1 1 73)) t_48_0 t_56_73
noncomputable def n_56_69 : e_Y := u_old (o_dup 70) n_56_70
theorem t_56_69 : e_Sn 56 69 (e_un n_56_69) := u_oldT (s_dup hq_56 (by decide +kernel) rfl : e_Sn 56 69 (o_dup 70)) t_56_70 e_cg_dup
noncomputable def n_56_66 : e_Y := u_tab (o_new 9 1 ef_9 69)
theorem t_56_66 : e_Sn 56 66 (e_un n_56_66) := u_tabT (s_new (index := 44) (ci := 9) (N := 1) (C := er_9) (T := et_9) (ty0 := ey_9) (fv := eg_9) hq_56 ho_56 rfl ei_9 eo_9 r_m_1_238 r_m_1_239 r_m_1_9 eh_9 rfl (e_newrel ek_9) (by decide +kernel) rfl : e_Sn 56 66 (o_new 9 1 ef_9 69))
noncomputable def n_56_65 : e_Y := u_ld f_okA f_l0 n_56_66
theorem t_56_65 : e_Sn 56 65 (e_un n_56_65) := u_ldAT f_l0_eq (s_aload (i := .aload_n 0) (len := 1) hq_56 (by decide +kernel) rfl (.inr ⟨0, rfl, rfl, rfl⟩) : e_Sn 56 65 (o_load e_okR 0 66)) t_56_66
noncomputable def n_56_62 : e_Y := u_putf 11 6 f_okA (u_old (o_putf (e_f1 11 6) e_okR 65) n_56_65) n_56_65
theorem t_56_62 : e_Sn 56 62 (e_un n_56_62) := u_putfT (fun _ => f_okA_eq) (s_putf (ty0 := ey_11) (ok := e_okR) (C := er_11) (T := et_11) (N := 15) (ref := "Plateroomprinter$World") (index := 40) (ci := 11) (k := 6) hq_56 ho_56 ⟨rfl, by decide, ei_11, r_m_2_99, .inl rfl⟩ eo_11 en_11 e_oksA (.inr ⟨rfl, rfl, rfl⟩) (by decide +kernel) rfl : e_Sn 56 62 (o_putf (e_f1 11 6) e_okR 65)) t_56_65
noncomputable def n_56_60 : e_Y := u_tab (o_newa 0 (e_I 2147483648) 62)
theorem t_56_60 : e_Sn 56 60 (e_un n_56_60) := u_tabT (s_newI r_m_1_78 hq_56 (by decide +kernel) rfl : e_Sn 56 60 (o_newa 0 (e_I 2147483648) 62))
noncomputable def n_56_59 : e_Y := u_push (.inl 2147483653) n_56_60
theorem t_56_59 : e_Sn 56 59 (e_un n_56_59) := u_pushT (s_iconst (n := (5)) hq_56 (by decide +kernel) rfl ⟨by decide +kernel, by decide +kernel⟩ : e_Sn 56 59 (o_push (.inl 2147483653) 60)) t_56_60
noncomputable def n_56_58 : e_Y := u_ld f_okA f_l0 n_56_59
theorem t_56_58 : e_Sn 56 58 (e_un n_56_58) := u_ldAT f_l0_eq (s_aload (i := .aload_n 0) (len := 1) hq_56 (by decide +kernel) rfl (.inr ⟨0, rfl, rfl, rfl⟩) : e_Sn 56 58 (o_load e_okR 0 59)) t_56_59
noncomputable def n_56_55 : e_Y := u_putf 11 5 f_okA (u_old (o_putf (e_f1 11 5) e_okR 58) n_56_58) n_56_58
theorem t_56_55 : e_Sn 56 55 (e_un n_56_55) := u_putfT (fun _ => f_okA_eq) (s_putf (ty0 := ey_11) (ok := e_okR) (C := er_11) (T := et_11) (N := 15) (ref := "Plateroomprinter$World") (index := 36) (ci := 11) (k := 5) hq_56 ho_56 ⟨rfl, by decide, ei_11, r_m_2_96, .inl rfl⟩ eo_11 en_11 e_oksA (.inr ⟨rfl, rfl, rfl⟩) (by decide +kernel) rfl : e_Sn 56 55 (o_putf (e_f1 11 5) e_okR 58)) t_56_58
noncomputable def n_56_52 : e_Y := u_tab (o_newa 4 e_N 55)
theorem t_56_52 : e_Sn 56 52 (e_un n_56_52) := u_tabT (s_newR (tc := 1) (index := 34) (E := "Plateroomprinter$Path") rfl ho_56 r_m_1_236 (fun s h => h _ (List.mem_filter.mpr ⟨(r_k1 (List.mem_of_getElem? (i := 237) (by decide +kernel))), rfl⟩)) hq_56 (by decide +kernel) rfl : e_Sn 56 52 (o_newa 4 e_N 55))
noncomputable def n_56_51 : e_Y := u_push (.inl 2147483653) n_56_52
theorem t_56_51 : e_Sn 56 51 (e_un n_56_51) := u_pushT (s_iconst (n := (5)) hq_56 (by decide +kernel) rfl ⟨by decide +kernel, by decide +kernel⟩ : e_Sn 56 51 (o_push (.inl 2147483653) 52)) t_56_52
noncomputable def n_56_50 : e_Y := u_ld f_okA f_l0 n_56_51
theorem t_56_50 : e_Sn 56 50 (e_un n_56_50) := u_ldAT f_l0_eq (s_aload (i := .aload_n 0) (len := 1) hq_56 (by decide +kernel) rfl (.inr ⟨0, rfl, rfl, rfl⟩) : e_Sn 56 50 (o_load e_okR 0 51)) t_56_51
noncomputable def n_56_47 : e_Y := u_putf 11 3 f_okA (u_old (o_putf (e_f1 11 3) e_okR 50) n_56_50) n_56_50
theorem t_56_47 : e_Sn 56 47 (e_un n_56_47) := u_putfT (fun _ => f_okA_eq) (s_putf (ty0 := ey_11) (ok := e_okR) (C := er_11) (T := et_11) (N := 15) (ref := "Plateroomprinter$World") (index := 30) (ci := 11) (k := 3) hq_56 ho_56 ⟨rfl, by decide, ei_11, r_m_2_91, .inl rfl⟩ eo_11 en_11 e_oksA (.inr ⟨rfl, rfl, rfl⟩) (by decide +kernel) rfl : e_Sn 56 47 (o_putf (e_f1 11 3) e_okR 50)) t_56_50
noncomputable def n_56_44 : e_Y := u_tab (o_newa 5 e_N 47)
theorem t_56_44 : e_Sn 56 44 (e_un n_56_44) := u_tabT (s_newR (tc := 2) (index := 23) (E := "Plateroomprinter$State") rfl ho_56 r_m_1_112 (fun s h => h _ (List.mem_filter.mpr ⟨(r_k1 (List.mem_of_getElem? (i := 235) (by decide +kernel))), rfl⟩)) hq_56 (by decide +kernel) rfl : e_Sn 56 44 (o_newa 5 e_N 47))
noncomputable def n_56_42 : e_Y := u_push (.inl 2147483656) n_56_44
theorem t_56_42 : e_Sn 56 42 (e_un n_56_42) := u_pushT (s_bipush (n := (8)) hq_56 (by decide +kernel) rfl ⟨by decide +kernel, by decide +kernel⟩ : e_Sn 56 42 (o_push (.inl 2147483656) 44)) t_56_44
noncomputable def n_56_41 : e_Y := u_ld f_okA f_l0 n_56_42
theorem t_56_41 : e_Sn 56 41 (e_un n_56_41) := u_ldAT f_l0_eq (s_aload (i := .aload_n 0) (len := 1) hq_56 (by decide +kernel) rfl (.inr ⟨0, rfl, rfl, rfl⟩) : e_Sn 56 41 (o_load e_okR 0 42)) t_56_42
noncomputable def n_56_38 : e_Y := u_putf 11 2 f_okA (u_old (o_putf (e_f1 11 2) e_okR 41) n_56_41) n_56_41
theorem t_56_38 : e_Sn 56 38 (e_un n_56_38) := u_putfT (fun _ => f_okA_eq) (s_putf (ty0 := ey_11) (ok := e_okR) (C := er_11) (T := et_11) (N := 15) (ref := "Plateroomprinter$World") (index := 26) (ci := 11) (k := 2) hq_56 ho_56 ⟨rfl, by decide, ei_11, r_m_2_88, .inl rfl⟩ eo_11 en_11 e_oksR (.inr ⟨rfl, rfl, rfl⟩) (by decide +kernel) rfl : e_Sn 56 38 (o_putf (e_f1 11 2) e_okR 41)) t_56_41
noncomputable def n_56_35 : e_Y := u_callI 51 1 20 1 n_51_0 n_56_38
theorem t_56_35 : e_Sn 56 35 (e_un n_56_35) := u_callIT rfl (s_callIN (host := "Plateroomprinter") (index := 25) hq_56 ho_56 hy_51 hp_51 hc_51 hi_51 hd_51 r_m_1_114 rfl rfl hs_51 (by decide +kernel) rfl : e_Sn 56 35 (o_callI 51 1 1 38)) t_51_0 t_56_38
noncomputable def n_56_34 : e_Y := u_old (o_dup 35) n_56_35
theorem t_56_34 : e_Sn 56 34 (e_un n_56_34) := u_oldT (s_dup hq_56 (by decide +kernel) rfl : e_Sn 56 34 (o_dup 35)) t_56_35 e_cg_dup
noncomputable def n_56_31 : e_Y := u_tab (o_new 10 11 ef_10 34)
theorem t_56_31 : e_Sn 56 31 (e_un n_56_31) := u_tabT (s_new (index := 23) (ci := 10) (N := 11) (C := er_10) (T := et_10) (ty0 := ey_10) (fv := eg_10) hq_56 ho_56 rfl ei_10 eo_10 r_m_1_112 r_m_1_113 r_m_1_6 eh_10 rfl (e_newrel ek_10) (by decide +kernel) rfl : e_Sn 56 31 (o_new 10 11 ef_10 34))
noncomputable def n_56_30 : e_Y := u_ld f_okA f_l0 n_56_31
theorem t_56_30 : e_Sn 56 30 (e_un n_56_30) := u_ldAT f_l0_eq (s_aload (i := .aload_n 0) (len := 1) hq_56 (by decide +kernel) rfl (.inr ⟨0, rfl, rfl, rfl⟩) : e_Sn 56 30 (o_load e_okR 0 31)) t_56_31
noncomputable def n_56_27 : e_Y := u_putf 11 1 f_okA (u_old (o_putf (e_f1 11 1) e_okR 30) n_56_30) n_56_30
theorem t_56_27 : e_Sn 56 27 (e_un n_56_27) := u_putfT (fun _ => f_okA_eq) (s_putf (ty0 := ey_11) (ok := e_okR) (C := er_11) (T := et_11) (N := 15) (ref := "Plateroomprinter$World") (index := 20) (ci := 11) (k := 1) hq_56 ho_56 ⟨rfl, by decide, ei_11, r_m_2_85, .inl rfl⟩ eo_11 en_11 e_oksR (.inr ⟨rfl, rfl, rfl⟩) (by decide +kernel) rfl : e_Sn 56 27 (o_putf (e_f1 11 1) e_okR 30)) t_56_30
noncomputable def n_56_24 : e_Y := u_callI 29 2 21 2 n_29_0 n_56_27
theorem t_56_24 : e_Sn 56 24 (e_un n_56_24) := u_callIT rfl (s_callI (index := 11) hq_56 ho_56 hy_29 hp_29 hc_29 hi_29 hd_29 r_m_1_87 rfl rfl hs_29 (by decide +kernel) rfl : e_Sn 56 24 (o_callI 29 2 2 27)) t_29_0 t_56_27
noncomputable def n_56_22 : e_Y := u_push (.inl 2147483658) n_56_24
theorem t_56_22 : e_Sn 56 22 (e_un n_56_22) := u_pushT (s_bipush (n := (10)) hq_56 (by decide +kernel) rfl ⟨by decide +kernel, by decide +kernel⟩ : e_Sn 56 22 (o_push (.inl 2147483658) 24)) t_56_24
noncomputable def n_56_21 : e_Y := u_old (o_dup 22) n_56_22
theorem t_56_21 : e_Sn 56 21 (e_un n_56_21) := u_oldT (s_dup hq_56 (by decide +kernel) rfl : e_Sn 56 21 (o_dup 22)) t_56_22 e_cg_dup
noncomputable def n_56_18 : e_Y := u_tab (o_new 4 5 ef_4 21)
theorem t_56_18 : e_Sn 56 18 (e_un n_56_18) := u_tabT (s_new (index := 9) (ci := 4) (N := 5) (C := er_4) (T := et_4) (ty0 := ey_4) (fv := eg_4) hq_56 ho_56 rfl ei_4 eo_4 r_m_1_85 r_m_1_86 r_m_1_4 eh_4 rfl (e_newrel ek_4) (by decide +kernel) rfl : e_Sn 56 18 (o_new 4 5 ef_4 21))
noncomputable def n_56_17 : e_Y := u_ld f_okA f_l0 n_56_18
theorem t_56_17 : e_Sn 56 17 (e_un n_56_17) := u_ldAT f_l0_eq (s_aload (i := .aload_n 0) (len := 1) hq_56 (by decide +kernel) rfl (.inr ⟨0, rfl, rfl, rfl⟩) : e_Sn 56 17 (o_load e_okR 0 18)) t_56_18
noncomputable def n_56_14 : e_Y := u_putf 11 0 f_okA (u_old (o_putf (e_f1 11 0) e_okR 17) n_56_17) n_56_17
theorem t_56_14 : e_Sn 56 14 (e_un n_56_14) := u_putfT (fun _ => f_okA_eq) (s_putf (ty0 := ey_11) (ok := e_okR) (C := er_11) (T := et_11) (N := 15) (ref := "Plateroomprinter$World") (index := 14) (ci := 11) (k := 0) hq_56 ho_56 ⟨rfl, by decide, ei_11, r_m_2_82, .inl rfl⟩ eo_11 en_11 e_oksR (.inr ⟨rfl, rfl, rfl⟩) (by decide +kernel) rfl : e_Sn 56 14 (o_putf (e_f1 11 0) e_okR 17)) t_56_17
noncomputable def n_56_11 : e_Y := u_callI 29 2 21 2 n_29_0 n_56_14
theorem t_56_11 : e_Sn 56 11 (e_un n_56_11) := u_callIT rfl (s_callI (index := 11) hq_56 ho_56 hy_29 hp_29 hc_29 hi_29 hd_29 r_m_1_87 rfl rfl hs_29 (by decide +kernel) rfl : e_Sn 56 11 (o_callI 29 2 2 14)) t_29_0 t_56_14
noncomputable def n_56_9 : e_Y := u_push (.inl 2147483688) n_56_11
theorem t_56_9 : e_Sn 56 9 (e_un n_56_9) := u_pushT (s_bipush (n := (40)) hq_56 (by decide +kernel) rfl ⟨by decide +kernel, by decide +kernel⟩ : e_Sn 56 9 (o_push (.inl 2147483688) 11)) t_56_11
noncomputable def n_56_8 : e_Y := u_old (o_dup 9) n_56_9
theorem t_56_8 : e_Sn 56 8 (e_un n_56_8) := u_oldT (s_dup hq_56 (by decide +kernel) rfl : e_Sn 56 8 (o_dup 9)) t_56_9 e_cg_dup
noncomputable def n_56_5 : e_Y := u_tab (o_new 4 5 ef_4 8)
theorem t_56_5 : e_Sn 56 5 (e_un n_56_5) := u_tabT (s_new (index := 9) (ci := 4) (N := 5) (C := er_4) (T := et_4) (ty0 := ey_4) (fv := eg_4) hq_56 ho_56 rfl ei_4 eo_4 r_m_1_85 r_m_1_86 r_m_1_4 eh_4 rfl (e_newrel ek_4) (by decide +kernel) rfl : e_Sn 56 5 (o_new 4 5 ef_4 8))
noncomputable def n_56_4 : e_Y := u_ld f_okA f_l0 n_56_5
theorem t_56_4 : e_Sn 56 4 (e_un n_56_4) := u_ldAT f_l0_eq (s_aload (i := .aload_n 0) (len := 1) hq_56 (by decide +kernel) rfl (.inr ⟨0, rfl, rfl, rfl⟩) : e_Sn 56 4 (o_load e_okR 0 5)) t_56_5
noncomputable def n_56_1 : e_Y := u_tab (o_oinit 4)
theorem t_56_1 : e_Sn 56 1 (e_un n_56_1) := u_tabT (s_oinit (idx := 3) hq_56 ho_56 (r_k1 (List.mem_of_getElem? (i := 84) (by decide +kernel))) r_m_1_53 r_m_1_54 (by decide +kernel) rfl : e_Sn 56 1 (o_oinit 4))
noncomputable def n_56_0 : e_Y := u_ld f_okA f_l0 n_56_1
theorem t_56_0 : e_Sn 56 0 (e_un n_56_0) := u_ldAT f_l0_eq (s_aload (i := .aload_n 0) (len := 1) hq_56 (by decide +kernel) rfl (.inr ⟨0, rfl, rfl, rfl⟩) : e_Sn 56 0 (o_load e_okR 0 1)) t_56_1
noncomputable def e_tb_56 : e_X := (e_br 69 (e_br 34 (e_br 8 (e_br 4 (e_lf 0 (e_un n_56_0)) (e_lf 4 (e_un n_56_4))) (e_br 21 (e_lf 8 (e_un n_56_8)) (e_lf 21 (e_un n_56_21)))) (e_br 55 (e_br 47 (e_lf 34 (e_un n_56_34)) (e_lf 47 (e_un n_56_47))) (e_br 62 (e_lf 55 (e_un n_56_55)) (e_lf 62 (e_un n_56_62))))) (e_br 108 (e_br 91 (e_br 80 (e_lf 69 (e_un n_56_69)) (e_lf 80 (e_un n_56_80))) (e_br 103 (e_lf 91 (e_un n_56_91)) (e_lf 103 (e_un n_56_103)))) (e_br 135 (e_br 122 (e_lf 108 (e_un n_56_108)) (e_lf 122 (e_un n_56_122))) (e_br 148 (e_lf 135 (e_un n_56_135)) (e_lf 148 (e_un n_56_148))))))
theorem e_tk_56 : e_Tb 56 e_tb_56 := (e_brT (e_brT (e_brT (e_brT (e_lfT t_56_0) (e_lfT t_56_4)) (e_brT (e_lfT t_56_8) (e_lfT t_56_21))) (e_brT (e_brT (e_lfT t_56_34) (e_lfT t_56_47)) (e_brT (e_lfT t_56_55) (e_lfT t_56_62)))) (e_brT (e_brT (e_brT (e_lfT t_56_69) (e_lfT t_56_80)) (e_brT (e_lfT t_56_91) (e_lfT t_56_103))) (e_brT (e_brT (e_lfT t_56_108) (e_lfT t_56_122)) (e_brT (e_lfT t_56_135) (e_lfT t_56_148)))))
theorem hq_0 : (e_ml[0]?).map (·.2.1) = some prog_1_method_1_code := Eq.trans (congrArg (Option.map (fun e => e.2.1)) hy_0) rfl
theorem ho_0 : (e_ml[0]?).map (·.1.cls) = some "Plateroomprinter" := Eq.trans (congrArg (Option.map (fun e => e.1.cls)) hy_0) rfl
theorem hr_0 : (e_ml[0]?).map (·.2.2.2) = some none := Eq.trans (congrArg (Option.map (fun e => e.2.2.2)) hy_0) rfl
noncomputable def n_0_166 : e_Y := u_retV
theorem t_0_166 : e_Sn 0 166 (e_un n_0_166) := u_retVT (s_vret hq_0 hr_0 (by decide +kernel) : e_Sn 0 166 (o_retv))
noncomputable def n_0_163 : e_Y := u_putf 0 16 f_okI (u_old (o_putf (e_f1 0 16) e_okI 166) n_0_166) n_0_166
theorem t_0_163 : e_Sn 0 163 (e_un n_0_163) := u_putfT (fun _ => f_okI_eq) (s_putf (ty0 := ey_0) (ok := e_okI) (C := er_0) (T := et_0) (N := 17) (ref := "Plateroomprinter") (index := 87) (ci := 0) (k := 16) hq_0 ho_0 ⟨rfl, by decide, ei_0, r_m_3_79, .inl rfl⟩ eo_0 en_0 e_oksI (.inl rfl) (by decide +kernel) rfl : e_Sn 0 163 (o_putf (e_f1 0 16) e_okI 166)) t_0_166
noncomputable def n_0_162 : e_Y := u_push (.inl 2147483647) n_0_163
theorem t_0_162 : e_Sn 0 162 (e_un n_0_162) := u_pushT (s_iconst (n := (-1)) hq_0 (by decide +kernel) rfl ⟨by decide +kernel, by decide +kernel⟩ : e_Sn 0 162 (o_push (.inl 2147483647) 163)) t_0_163
noncomputable def n_0_161 : e_Y := u_ld f_okA f_l0 n_0_162
theorem t_0_161 : e_Sn 0 161 (e_un n_0_161) := u_ldAT f_l0_eq (s_aload (i := .aload_n 0) (len := 1) hq_0 (by decide +kernel) rfl (.inr ⟨0, rfl, rfl, rfl⟩) : e_Sn 0 161 (o_load e_okR 0 162)) t_0_162
noncomputable def n_0_158 : e_Y := u_putf 0 15 f_okI (u_old (o_putf (e_f1 0 15) e_okI 161) n_0_161) n_0_161
theorem t_0_158 : e_Sn 0 158 (e_un n_0_158) := u_putfT (fun _ => f_okI_eq) (s_putf (ty0 := ey_0) (ok := e_okI) (C := er_0) (T := et_0) (N := 17) (ref := "Plateroomprinter") (index := 84) (ci := 0) (k := 15) hq_0 ho_0 ⟨rfl, by decide, ei_0, r_m_3_78, .inl rfl⟩ eo_0 en_0 e_oksI (.inl rfl) (by decide +kernel) rfl : e_Sn 0 158 (o_putf (e_f1 0 15) e_okI 161)) t_0_161
noncomputable def n_0_157 : e_Y := u_push (.inl 2147483647) n_0_158
theorem t_0_157 : e_Sn 0 157 (e_un n_0_157) := u_pushT (s_iconst (n := (-1)) hq_0 (by decide +kernel) rfl ⟨by decide +kernel, by decide +kernel⟩ : e_Sn 0 157 (o_push (.inl 2147483647) 158)) t_0_158
noncomputable def n_0_156 : e_Y := u_ld f_okA f_l0 n_0_157
theorem t_0_156 : e_Sn 0 156 (e_un n_0_156) := u_ldAT f_l0_eq (s_aload (i := .aload_n 0) (len := 1) hq_0 (by decide +kernel) rfl (.inr ⟨0, rfl, rfl, rfl⟩) : e_Sn 0 156 (o_load e_okR 0 157)) t_0_157
noncomputable def n_0_153 : e_Y := u_putf 0 14 f_okI (u_old (o_putf (e_f1 0 14) e_okI 156) n_0_156) n_0_156
theorem t_0_153 : e_Sn 0 153 (e_un n_0_153) := u_putfT (fun _ => f_okI_eq) (s_putf (ty0 := ey_0) (ok := e_okI) (C := er_0) (T := et_0) (N := 17) (ref := "Plateroomprinter") (index := 81) (ci := 0) (k := 14) hq_0 ho_0 ⟨rfl, by decide, ei_0, r_m_3_77, .inl rfl⟩ eo_0 en_0 e_oksI (.inl rfl) (by decide +kernel) rfl : e_Sn 0 153 (o_putf (e_f1 0 14) e_okI 156)) t_0_156
noncomputable def n_0_152 : e_Y := u_push (.inl 2147483648) n_0_153
theorem t_0_152 : e_Sn 0 152 (e_un n_0_152) := u_pushT (s_iconst (n := (0)) hq_0 (by decide +kernel) rfl ⟨by decide +kernel, by decide +kernel⟩ : e_Sn 0 152 (o_push (.inl 2147483648) 153)) t_0_153
noncomputable def n_0_151 : e_Y := u_ld f_okA f_l0 n_0_152
theorem t_0_151 : e_Sn 0 151 (e_un n_0_151) := u_ldAT f_l0_eq (s_aload (i := .aload_n 0) (len := 1) hq_0 (by decide +kernel) rfl (.inr ⟨0, rfl, rfl, rfl⟩) : e_Sn 0 151 (o_load e_okR 0 152)) t_0_152
noncomputable def n_0_148 : e_Y := u_putf 0 13 f_okI (u_old (o_putf (e_f1 0 13) e_okI 151) n_0_151) n_0_151
theorem t_0_148 : e_Sn 0 148 (e_un n_0_148) := u_putfT (fun _ => f_okI_eq) (s_putf (ty0 := ey_0) (ok := e_okI) (C := er_0) (T := et_0) (N := 17) (ref := "Plateroomprinter") (index := 77) (ci := 0) (k := 13) hq_0 ho_0 ⟨rfl, by decide, ei_0, (r_k3 (List.mem_of_getElem? (i := 76) (by decide +kernel))), .inl rfl⟩ eo_0 en_0 e_oksI (.inl rfl) (by decide +kernel) rfl : e_Sn 0 148 (o_putf (e_f1 0 13) e_okI 151)) t_0_151
noncomputable def n_0_147 : e_Y := u_push (.inl 2147483648) n_0_148
theorem t_0_147 : e_Sn 0 147 (e_un n_0_147) := u_pushT (s_iconst (n := (0)) hq_0 (by decide +kernel) rfl ⟨by decide +kernel, by decide +kernel⟩ : e_Sn 0 147 (o_push (.inl 2147483648) 148)) t_0_148
noncomputable def n_0_146 : e_Y := u_ld f_okA f_l0 n_0_147
theorem t_0_146 : e_Sn 0 146 (e_un n_0_146) := u_ldAT f_l0_eq (s_aload (i := .aload_n 0) (len := 1) hq_0 (by decide +kernel) rfl (.inr ⟨0, rfl, rfl, rfl⟩) : e_Sn 0 146 (o_load e_okR 0 147)) t_0_147
noncomputable def n_0_143 : e_Y := u_putf 0 12 f_okA (u_old (o_putf (e_f1 0 12) e_okR 146) n_0_146) n_0_146
theorem t_0_143 : e_Sn 0 143 (e_un n_0_143) := u_putfT (fun _ => f_okA_eq) (s_putf (ty0 := ey_0) (ok := e_okR) (C := er_0) (T := et_0) (N := 17) (ref := "Plateroomprinter") (index := 74) (ci := 0) (k := 12) hq_0 ho_0 ⟨rfl, by decide, ei_0, (r_k3 (List.mem_of_getElem? (i := 75) (by decide +kernel))), .inl rfl⟩ eo_0 en_0 e_oksA (.inr ⟨rfl, rfl, rfl⟩) (by decide +kernel) rfl : e_Sn 0 143 (o_putf (e_f1 0 12) e_okR 146)) t_0_146
noncomputable def n_0_141 : e_Y := u_tab (o_newa 0 (e_I 2147483648) 143)
theorem t_0_141 : e_Sn 0 141 (e_un n_0_141) := u_tabT (s_newI r_m_1_78 hq_0 (by decide +kernel) rfl : e_Sn 0 141 (o_newa 0 (e_I 2147483648) 143))
noncomputable def n_0_138 : e_Y := u_push (.inl 2147484704) n_0_141
theorem t_0_138 : e_Sn 0 138 (e_un n_0_138) := u_pushT (s_sipush (n := (1056)) hq_0 (by decide +kernel) rfl ⟨by decide +kernel, by decide +kernel⟩ : e_Sn 0 138 (o_push (.inl 2147484704) 141)) t_0_141
noncomputable def n_0_137 : e_Y := u_ld f_okA f_l0 n_0_138
theorem t_0_137 : e_Sn 0 137 (e_un n_0_137) := u_ldAT f_l0_eq (s_aload (i := .aload_n 0) (len := 1) hq_0 (by decide +kernel) rfl (.inr ⟨0, rfl, rfl, rfl⟩) : e_Sn 0 137 (o_load e_okR 0 138)) t_0_138
noncomputable def n_0_134 : e_Y := u_putf 0 11 f_okA (u_old (o_putf (e_f1 0 11) e_okR 137) n_0_137) n_0_137
theorem t_0_134 : e_Sn 0 134 (e_un n_0_134) := u_putfT (fun _ => f_okA_eq) (s_putf (ty0 := ey_0) (ok := e_okR) (C := er_0) (T := et_0) (N := 17) (ref := "Plateroomprinter") (index := 71) (ci := 0) (k := 11) hq_0 ho_0 ⟨rfl, by decide, ei_0, (r_k3 (List.mem_of_getElem? (i := 74) (by decide +kernel))), .inl rfl⟩ eo_0 en_0 e_oksA (.inr ⟨rfl, rfl, rfl⟩) (by decide +kernel) rfl : e_Sn 0 134 (o_putf (e_f1 0 11) e_okR 137)) t_0_137
noncomputable def n_0_132 : e_Y := u_tab (o_newa 0 (e_I 2147483648) 134)
theorem t_0_132 : e_Sn 0 132 (e_un n_0_132) := u_tabT (s_newI r_m_1_78 hq_0 (by decide +kernel) rfl : e_Sn 0 132 (o_newa 0 (e_I 2147483648) 134))
noncomputable def n_0_130 : e_Y := u_push (.inl 2147483768) n_0_132
theorem t_0_130 : e_Sn 0 130 (e_un n_0_130) := u_pushT (s_bipush (n := (120)) hq_0 (by decide +kernel) rfl ⟨by decide +kernel, by decide +kernel⟩ : e_Sn 0 130 (o_push (.inl 2147483768) 132)) t_0_132
noncomputable def n_0_129 : e_Y := u_ld f_okA f_l0 n_0_130
theorem t_0_129 : e_Sn 0 129 (e_un n_0_129) := u_ldAT f_l0_eq (s_aload (i := .aload_n 0) (len := 1) hq_0 (by decide +kernel) rfl (.inr ⟨0, rfl, rfl, rfl⟩) : e_Sn 0 129 (o_load e_okR 0 130)) t_0_130
noncomputable def n_0_126 : e_Y := u_putf 0 10 f_okA (u_old (o_putf (e_f1 0 10) e_okR 129) n_0_129) n_0_129
theorem t_0_126 : e_Sn 0 126 (e_un n_0_126) := u_putfT (fun _ => f_okA_eq) (s_putf (ty0 := ey_0) (ok := e_okR) (C := er_0) (T := et_0) (N := 17) (ref := "Plateroomprinter") (index := 68) (ci := 0) (k := 10) hq_0 ho_0 ⟨rfl, by decide, ei_0, (r_k3 (List.mem_of_getElem? (i := 73) (by decide +kernel))), .inl rfl⟩ eo_0 en_0 e_oksA (.inr ⟨rfl, rfl, rfl⟩) (by decide +kernel) rfl : e_Sn 0 126 (o_putf (e_f1 0 10) e_okR 129)) t_0_129
noncomputable def n_0_124 : e_Y := u_tab (o_newa 0 (e_I 2147483648) 126)
theorem t_0_124 : e_Sn 0 124 (e_un n_0_124) := u_tabT (s_newI r_m_1_78 hq_0 (by decide +kernel) rfl : e_Sn 0 124 (o_newa 0 (e_I 2147483648) 126))
noncomputable def n_0_122 : e_Y := u_push (.inl 2147483768) n_0_124
theorem t_0_122 : e_Sn 0 122 (e_un n_0_122) := u_pushT (s_bipush (n := (120)) hq_0 (by decide +kernel) rfl ⟨by decide +kernel, by decide +kernel⟩ : e_Sn 0 122 (o_push (.inl 2147483768) 124)) t_0_124
noncomputable def n_0_121 : e_Y := u_ld f_okA f_l0 n_0_122
theorem t_0_121 : e_Sn 0 121 (e_un n_0_121) := u_ldAT f_l0_eq (s_aload (i := .aload_n 0) (len := 1) hq_0 (by decide +kernel) rfl (.inr ⟨0, rfl, rfl, rfl⟩) : e_Sn 0 121 (o_load e_okR 0 122)) t_0_122
noncomputable def n_0_118 : e_Y := u_putf 0 9 f_okA (u_old (o_putf (e_f1 0 9) e_okR 121) n_0_121) n_0_121
theorem t_0_118 : e_Sn 0 118 (e_un n_0_118) := u_putfT (fun _ => f_okA_eq) (s_putf (ty0 := ey_0) (ok := e_okR) (C := er_0) (T := et_0) (N := 17) (ref := "Plateroomprinter") (index := 65) (ci := 0) (k := 9) hq_0 ho_0 ⟨rfl, by decide, ei_0, (r_k3 (List.mem_of_getElem? (i := 72) (by decide +kernel))), .inl rfl⟩ eo_0 en_0 e_oksA (.inr ⟨rfl, rfl, rfl⟩) (by decide +kernel) rfl : e_Sn 0 118 (o_putf (e_f1 0 9) e_okR 121)) t_0_121
noncomputable def n_0_116 : e_Y := u_tab (o_newa 0 (e_I 2147483648) 118)
theorem t_0_116 : e_Sn 0 116 (e_un n_0_116) := u_tabT (s_newI r_m_1_78 hq_0 (by decide +kernel) rfl : e_Sn 0 116 (o_newa 0 (e_I 2147483648) 118))
noncomputable def n_0_114 : e_Y := u_push (.inl 2147483680) n_0_116
theorem t_0_114 : e_Sn 0 114 (e_un n_0_114) := u_pushT (s_bipush (n := (32)) hq_0 (by decide +kernel) rfl ⟨by decide +kernel, by decide +kernel⟩ : e_Sn 0 114 (o_push (.inl 2147483680) 116)) t_0_116
noncomputable def n_0_113 : e_Y := u_ld f_okA f_l0 n_0_114
theorem t_0_113 : e_Sn 0 113 (e_un n_0_113) := u_ldAT f_l0_eq (s_aload (i := .aload_n 0) (len := 1) hq_0 (by decide +kernel) rfl (.inr ⟨0, rfl, rfl, rfl⟩) : e_Sn 0 113 (o_load e_okR 0 114)) t_0_114
noncomputable def n_0_110 : e_Y := u_putf 0 8 f_okA (u_old (o_putf (e_f1 0 8) e_okR 113) n_0_113) n_0_113
theorem t_0_110 : e_Sn 0 110 (e_un n_0_110) := u_putfT (fun _ => f_okA_eq) (s_putf (ty0 := ey_0) (ok := e_okR) (C := er_0) (T := et_0) (N := 17) (ref := "Plateroomprinter") (index := 62) (ci := 0) (k := 8) hq_0 ho_0 ⟨rfl, by decide, ei_0, (r_k3 (List.mem_of_getElem? (i := 71) (by decide +kernel))), .inl rfl⟩ eo_0 en_0 e_oksA (.inr ⟨rfl, rfl, rfl⟩) (by decide +kernel) rfl : e_Sn 0 110 (o_putf (e_f1 0 8) e_okR 113)) t_0_113
noncomputable def n_0_108 : e_Y := u_tab (o_newa 0 (e_I 2147483648) 110)
theorem t_0_108 : e_Sn 0 108 (e_un n_0_108) := u_tabT (s_newI r_m_1_78 hq_0 (by decide +kernel) rfl : e_Sn 0 108 (o_newa 0 (e_I 2147483648) 110))
noncomputable def n_0_106 : e_Y := u_push (.inl 2147483680) n_0_108
theorem t_0_106 : e_Sn 0 106 (e_un n_0_106) := u_pushT (s_bipush (n := (32)) hq_0 (by decide +kernel) rfl ⟨by decide +kernel, by decide +kernel⟩ : e_Sn 0 106 (o_push (.inl 2147483680) 108)) t_0_108
noncomputable def n_0_105 : e_Y := u_ld f_okA f_l0 n_0_106
theorem t_0_105 : e_Sn 0 105 (e_un n_0_105) := u_ldAT f_l0_eq (s_aload (i := .aload_n 0) (len := 1) hq_0 (by decide +kernel) rfl (.inr ⟨0, rfl, rfl, rfl⟩) : e_Sn 0 105 (o_load e_okR 0 106)) t_0_106
noncomputable def n_0_102 : e_Y := u_putf 0 7 f_okA (u_old (o_putf (e_f1 0 7) e_okR 105) n_0_105) n_0_105
theorem t_0_102 : e_Sn 0 102 (e_un n_0_102) := u_putfT (fun _ => f_okA_eq) (s_putf (ty0 := ey_0) (ok := e_okR) (C := er_0) (T := et_0) (N := 17) (ref := "Plateroomprinter") (index := 58) (ci := 0) (k := 7) hq_0 ho_0 ⟨rfl, by decide, ei_0, (r_k3 (List.mem_of_getElem? (i := 70) (by decide +kernel))), .inl rfl⟩ eo_0 en_0 e_oksA (.inr ⟨rfl, rfl, rfl⟩) (by decide +kernel) rfl : e_Sn 0 102 (o_putf (e_f1 0 7) e_okR 105)) t_0_105
noncomputable def n_0_100 : e_Y := u_tab (o_newa 0 (e_I 2147483648) 102)
theorem t_0_100 : e_Sn 0 100 (e_un n_0_100) := u_tabT (s_newI r_m_1_78 hq_0 (by decide +kernel) rfl : e_Sn 0 100 (o_newa 0 (e_I 2147483648) 102))
noncomputable def n_0_98 : e_Y := u_push (.inl 2147483680) n_0_100
theorem t_0_98 : e_Sn 0 98 (e_un n_0_98) := u_pushT (s_bipush (n := (32)) hq_0 (by decide +kernel) rfl ⟨by decide +kernel, by decide +kernel⟩ : e_Sn 0 98 (o_push (.inl 2147483680) 100)) t_0_100
noncomputable def n_0_97 : e_Y := u_ld f_okA f_l0 n_0_98
theorem t_0_97 : e_Sn 0 97 (e_un n_0_97) := u_ldAT f_l0_eq (s_aload (i := .aload_n 0) (len := 1) hq_0 (by decide +kernel) rfl (.inr ⟨0, rfl, rfl, rfl⟩) : e_Sn 0 97 (o_load e_okR 0 98)) t_0_98
noncomputable def n_0_94 : e_Y := u_putf 0 6 f_okA (u_old (o_putf (e_f1 0 6) e_okR 97) n_0_97) n_0_97
theorem t_0_94 : e_Sn 0 94 (e_un n_0_94) := u_putfT (fun _ => f_okA_eq) (s_putf (ty0 := ey_0) (ok := e_okR) (C := er_0) (T := et_0) (N := 17) (ref := "Plateroomprinter") (index := 54) (ci := 0) (k := 6) hq_0 ho_0 ⟨rfl, by decide, ei_0, (r_k3 (List.mem_of_getElem? (i := 69) (by decide +kernel))), .inl rfl⟩ eo_0 en_0 e_oksR (.inr ⟨rfl, rfl, rfl⟩) (by decide +kernel) rfl : e_Sn 0 94 (o_putf (e_f1 0 6) e_okR 97)) t_0_97
noncomputable def n_0_91 : e_Y := u_callI 48 1 20 1 n_48_0 n_0_94
theorem t_0_91 : e_Sn 0 91 (e_un n_0_91) := u_callIT rfl (s_callIN (host := "Plateroomprinter") (index := 53) hq_0 ho_0 hy_48 hp_48 hc_48 hi_48 hd_48 (r_k3 (List.mem_of_getElem? (i := 62) (by decide +kernel))) rfl rfl hs_48 (by decide +kernel) rfl : e_Sn 0 91 (o_callI 48 1 1 94)) t_48_0 t_0_94
noncomputable def n_0_90 : e_Y := u_old (o_dup 91) n_0_91
theorem t_0_90 : e_Sn 0 90 (e_un n_0_90) := u_oldT (s_dup hq_0 (by decide +kernel) rfl : e_Sn 0 90 (o_dup 91)) t_0_91 e_cg_dup
noncomputable def n_0_87 : e_Y := u_tab (o_new 9 1 ef_9 90)
theorem t_0_87 : e_Sn 0 87 (e_un n_0_87) := u_tabT (s_new (index := 51) (ci := 9) (N := 1) (C := er_9) (T := et_9) (ty0 := ey_9) (fv := eg_9) hq_0 ho_0 rfl ei_9 eo_9 (r_k3 (List.mem_of_getElem? (i := 61) (by decide +kernel))) r_m_1_239 r_m_1_9 eh_9 rfl (e_newrel ek_9) (by decide +kernel) rfl : e_Sn 0 87 (o_new 9 1 ef_9 90))
noncomputable def n_0_86 : e_Y := u_ld f_okA f_l0 n_0_87
theorem t_0_86 : e_Sn 0 86 (e_un n_0_86) := u_ldAT f_l0_eq (s_aload (i := .aload_n 0) (len := 1) hq_0 (by decide +kernel) rfl (.inr ⟨0, rfl, rfl, rfl⟩) : e_Sn 0 86 (o_load e_okR 0 87)) t_0_87
noncomputable def n_0_83 : e_Y := u_putf 0 5 f_okA (u_old (o_putf (e_f1 0 5) e_okR 86) n_0_86) n_0_86
theorem t_0_83 : e_Sn 0 83 (e_un n_0_83) := u_putfT (fun _ => f_okA_eq) (s_putf (ty0 := ey_0) (ok := e_okR) (C := er_0) (T := et_0) (N := 17) (ref := "Plateroomprinter") (index := 47) (ci := 0) (k := 5) hq_0 ho_0 ⟨rfl, by decide, ei_0, r_m_3_68, .inl rfl⟩ eo_0 en_0 e_oksR (.inr ⟨rfl, rfl, rfl⟩) (by decide +kernel) rfl : e_Sn 0 83 (o_putf (e_f1 0 5) e_okR 86)) t_0_86
noncomputable def n_0_80 : e_Y := u_callI 13 3 22 3 n_13_0 n_0_83
theorem t_0_80 : e_Sn 0 80 (e_un n_0_80) := u_callIT rfl (s_callI (index := 44) hq_0 ho_0 hy_13 hp_13 hc_13 hi_13 hd_13 (r_k2 (List.mem_of_getElem? (i := 235) (by decide +kernel))) rfl rfl hs_13 (by decide +kernel) rfl : e_Sn 0 80 (o_callI 13 3 3 83)) t_13_0 t_0_83
noncomputable def n_0_77 : e_Y := u_getf 0 0 (u_old (o_getf (e_f1 0 0) 80) n_0_80) n_0_80
theorem t_0_77 : e_Sn 0 77 (e_un n_0_77) := u_getfT (s_getf (C := er_0) (T := et_0) (N := 17) (ref := "Plateroomprinter") (index := 10) (ci := 0) (k := 0) hq_0 ho_0 ⟨rfl, by decide, ei_0, r_m_3_63, .inl rfl⟩ (by decide +kernel) rfl : e_Sn 0 77 (o_getf (e_f1 0 0) 80)) t_0_80
noncomputable def n_0_76 : e_Y := u_ld f_okA f_l0 n_0_77
theorem t_0_76 : e_Sn 0 76 (e_un n_0_76) := u_ldAT f_l0_eq (s_aload (i := .aload_n 0) (len := 1) hq_0 (by decide +kernel) rfl (.inr ⟨0, rfl, rfl, rfl⟩) : e_Sn 0 76 (o_load e_okR 0 77)) t_0_77
noncomputable def n_0_73 : e_Y := u_getf 0 1 (u_old (o_getf (e_f1 0 1) 76) n_0_76) n_0_76
theorem t_0_73 : e_Sn 0 73 (e_un n_0_73) := u_getfT (s_getf (C := er_0) (T := et_0) (N := 17) (ref := "Plateroomprinter") (index := 19) (ci := 0) (k := 1) hq_0 ho_0 ⟨rfl, by decide, ei_0, r_m_3_64, .inl rfl⟩ (by decide +kernel) rfl : e_Sn 0 73 (o_getf (e_f1 0 1) 76)) t_0_76
noncomputable def n_0_72 : e_Y := u_ld f_okA f_l0 n_0_73
theorem t_0_72 : e_Sn 0 72 (e_un n_0_72) := u_ldAT f_l0_eq (s_aload (i := .aload_n 0) (len := 1) hq_0 (by decide +kernel) rfl (.inr ⟨0, rfl, rfl, rfl⟩) : e_Sn 0 72 (o_load e_okR 0 73)) t_0_73
noncomputable def n_0_71 : e_Y := u_old (o_dup 72) n_0_72
theorem t_0_71 : e_Sn 0 71 (e_un n_0_71) := u_oldT (s_dup hq_0 (by decide +kernel) rfl : e_Sn 0 71 (o_dup 72)) t_0_72 e_cg_dup
noncomputable def n_0_68 : e_Y := u_tab (o_new 2 19 ef_2 71)
theorem t_0_68 : e_Sn 0 68 (e_un n_0_68) := u_tabT (s_new (index := 42) (ci := 2) (N := 19) (C := er_2) (T := et_2) (ty0 := ey_2) (fv := eg_2) hq_0 ho_0 rfl ei_2 eo_2 (r_k2 (List.mem_of_getElem? (i := 233) (by decide +kernel))) (r_k2 (List.mem_of_getElem? (i := 234) (by decide +kernel))) r_m_1_13 eh_2 rfl (e_newrel ek_2) (by decide +kernel) rfl : e_Sn 0 68 (o_new 2 19 ef_2 71))
noncomputable def n_0_67 : e_Y := u_ld f_okA f_l0 n_0_68
theorem t_0_67 : e_Sn 0 67 (e_un n_0_67) := u_ldAT f_l0_eq (s_aload (i := .aload_n 0) (len := 1) hq_0 (by decide +kernel) rfl (.inr ⟨0, rfl, rfl, rfl⟩) : e_Sn 0 67 (o_load e_okR 0 68)) t_0_68
noncomputable def n_0_64 : e_Y := u_putf 0 4 f_okA (u_old (o_putf (e_f1 0 4) e_okR 67) n_0_67) n_0_67
theorem t_0_64 : e_Sn 0 64 (e_un n_0_64) := u_putfT (fun _ => f_okA_eq) (s_putf (ty0 := ey_0) (ok := e_okR) (C := er_0) (T := et_0) (N := 17) (ref := "Plateroomprinter") (index := 38) (ci := 0) (k := 4) hq_0 ho_0 ⟨rfl, by decide, ei_0, r_m_3_67, .inl rfl⟩ eo_0 en_0 e_oksR (.inr ⟨rfl, rfl, rfl⟩) (by decide +kernel) rfl : e_Sn 0 64 (o_putf (e_f1 0 4) e_okR 67)) t_0_67
noncomputable def n_0_61 : e_Y := u_callI 40 3 22 3 n_40_0 n_0_64
theorem t_0_61 : e_Sn 0 61 (e_un n_0_61) := u_callIT rfl (s_callI (index := 35) hq_0 ho_0 hy_40 hp_40 hc_40 hi_40 hd_40 (r_k2 (List.mem_of_getElem? (i := 175) (by decide +kernel))) rfl rfl hs_40 (by decide +kernel) rfl : e_Sn 0 61 (o_callI 40 3 3 64)) t_40_0 t_0_64
noncomputable def n_0_58 : e_Y := u_getf 0 3 (u_old (o_getf (e_f1 0 3) 61) n_0_61) n_0_61
theorem t_0_58 : e_Sn 0 58 (e_un n_0_58) := u_getfT (s_getf (C := er_0) (T := et_0) (N := 17) (ref := "Plateroomprinter") (index := 29) (ci := 0) (k := 3) hq_0 ho_0 ⟨rfl, by decide, ei_0, r_m_3_66, .inl rfl⟩ (by decide +kernel) rfl : e_Sn 0 58 (o_getf (e_f1 0 3) 61)) t_0_61
noncomputable def n_0_57 : e_Y := u_ld f_okA f_l0 n_0_58
theorem t_0_57 : e_Sn 0 57 (e_un n_0_57) := u_ldAT f_l0_eq (s_aload (i := .aload_n 0) (len := 1) hq_0 (by decide +kernel) rfl (.inr ⟨0, rfl, rfl, rfl⟩) : e_Sn 0 57 (o_load e_okR 0 58)) t_0_58
noncomputable def n_0_54 : e_Y := u_getf 0 1 (u_old (o_getf (e_f1 0 1) 57) n_0_57) n_0_57
theorem t_0_54 : e_Sn 0 54 (e_un n_0_54) := u_getfT (s_getf (C := er_0) (T := et_0) (N := 17) (ref := "Plateroomprinter") (index := 19) (ci := 0) (k := 1) hq_0 ho_0 ⟨rfl, by decide, ei_0, r_m_3_64, .inl rfl⟩ (by decide +kernel) rfl : e_Sn 0 54 (o_getf (e_f1 0 1) 57)) t_0_57
noncomputable def n_0_53 : e_Y := u_ld f_okA f_l0 n_0_54
theorem t_0_53 : e_Sn 0 53 (e_un n_0_53) := u_ldAT f_l0_eq (s_aload (i := .aload_n 0) (len := 1) hq_0 (by decide +kernel) rfl (.inr ⟨0, rfl, rfl, rfl⟩) : e_Sn 0 53 (o_load e_okR 0 54)) t_0_54
noncomputable def n_0_52 : e_Y := u_old (o_dup 53) n_0_53
theorem t_0_52 : e_Sn 0 52 (e_un n_0_52) := u_oldT (s_dup hq_0 (by decide +kernel) rfl : e_Sn 0 52 (o_dup 53)) t_0_53 e_cg_dup
noncomputable def n_0_49 : e_Y := u_tab (o_new 6 17 ef_6 52)
theorem t_0_49 : e_Sn 0 49 (e_un n_0_49) := u_tabT (s_new (index := 33) (ci := 6) (N := 17) (C := er_6) (T := et_6) (ty0 := ey_6) (fv := eg_6) hq_0 ho_0 rfl ei_6 eo_6 (r_k2 (List.mem_of_getElem? (i := 173) (by decide +kernel))) (r_k2 (List.mem_of_getElem? (i := 174) (by decide +kernel))) r_m_1_12 eh_6 rfl (e_newrel ek_6) (by decide +kernel) rfl : e_Sn 0 49 (o_new 6 17 ef_6 52))
noncomputable def n_0_48 : e_Y := u_ld f_okA f_l0 n_0_49
theorem t_0_48 : e_Sn 0 48 (e_un n_0_48) := u_ldAT f_l0_eq (s_aload (i := .aload_n 0) (len := 1) hq_0 (by decide +kernel) rfl (.inr ⟨0, rfl, rfl, rfl⟩) : e_Sn 0 48 (o_load e_okR 0 49)) t_0_49
noncomputable def n_0_45 : e_Y := u_putf 0 3 f_okA (u_old (o_putf (e_f1 0 3) e_okR 48) n_0_48) n_0_48
theorem t_0_45 : e_Sn 0 45 (e_un n_0_45) := u_putfT (fun _ => f_okA_eq) (s_putf (ty0 := ey_0) (ok := e_okR) (C := er_0) (T := et_0) (N := 17) (ref := "Plateroomprinter") (index := 29) (ci := 0) (k := 3) hq_0 ho_0 ⟨rfl, by decide, ei_0, r_m_3_66, .inl rfl⟩ eo_0 en_0 e_oksR (.inr ⟨rfl, rfl, rfl⟩) (by decide +kernel) rfl : e_Sn 0 45 (o_putf (e_f1 0 3) e_okR 48)) t_0_48
noncomputable def n_0_42 : e_Y := u_callI 47 1 20 1 n_47_0 n_0_45
theorem t_0_42 : e_Sn 0 42 (e_un n_0_42) := u_callIT rfl (s_callIN (host := "Plateroomprinter") (index := 28) hq_0 ho_0 hy_47 hp_47 hc_47 hi_47 hd_47 (r_k2 (List.mem_of_getElem? (i := 159) (by decide +kernel))) rfl rfl hs_47 (by decide +kernel) rfl : e_Sn 0 42 (o_callI 47 1 1 45)) t_47_0 t_0_45
noncomputable def n_0_41 : e_Y := u_old (o_dup 42) n_0_42
theorem t_0_41 : e_Sn 0 41 (e_un n_0_41) := u_oldT (s_dup hq_0 (by decide +kernel) rfl : e_Sn 0 41 (o_dup 42)) t_0_42 e_cg_dup
noncomputable def n_0_38 : e_Y := u_tab (o_new 8 3 ef_8 41)
theorem t_0_38 : e_Sn 0 38 (e_un n_0_38) := u_tabT (s_new (index := 26) (ci := 8) (N := 3) (C := er_8) (T := et_8) (ty0 := ey_8) (fv := eg_8) hq_0 ho_0 rfl ei_8 eo_8 (r_k2 (List.mem_of_getElem? (i := 157) (by decide +kernel))) (r_k2 (List.mem_of_getElem? (i := 158) (by decide +kernel))) r_m_1_11 eh_8 rfl (e_newrel ek_8) (by decide +kernel) rfl : e_Sn 0 38 (o_new 8 3 ef_8 41))
noncomputable def n_0_37 : e_Y := u_ld f_okA f_l0 n_0_38
theorem t_0_37 : e_Sn 0 37 (e_un n_0_37) := u_ldAT f_l0_eq (s_aload (i := .aload_n 0) (len := 1) hq_0 (by decide +kernel) rfl (.inr ⟨0, rfl, rfl, rfl⟩) : e_Sn 0 37 (o_load e_okR 0 38)) t_0_38
noncomputable def n_0_34 : e_Y := u_putf 0 2 f_okA (u_old (o_putf (e_f1 0 2) e_okR 37) n_0_37) n_0_37
theorem t_0_34 : e_Sn 0 34 (e_un n_0_34) := u_putfT (fun _ => f_okA_eq) (s_putf (ty0 := ey_0) (ok := e_okR) (C := er_0) (T := et_0) (N := 17) (ref := "Plateroomprinter") (index := 23) (ci := 0) (k := 2) hq_0 ho_0 ⟨rfl, by decide, ei_0, r_m_3_65, .inl rfl⟩ eo_0 en_0 e_oksR (.inr ⟨rfl, rfl, rfl⟩) (by decide +kernel) rfl : e_Sn 0 34 (o_putf (e_f1 0 2) e_okR 37)) t_0_37
noncomputable def n_0_31 : e_Y := u_callI 56 2 21 1 n_56_0 n_0_34
theorem t_0_31 : e_Sn 0 31 (e_un n_0_31) := u_callIT rfl (s_callI (index := 18) hq_0 ho_0 hy_56 hp_56 hc_56 hi_56 hd_56 r_m_1_81 rfl rfl hs_56 (by decide +kernel) rfl : e_Sn 0 31 (o_callI 56 2 1 34)) t_56_0 t_0_34
noncomputable def n_0_30 : e_Y := u_old (o_dup 31) n_0_31
theorem t_0_30 : e_Sn 0 30 (e_un n_0_30) := u_oldT (s_dup hq_0 (by decide +kernel) rfl : e_Sn 0 30 (o_dup 31)) t_0_31 e_cg_dup
noncomputable def n_0_27 : e_Y := u_tab (o_new 11 15 ef_11 30)
theorem t_0_27 : e_Sn 0 27 (e_un n_0_27) := u_tabT (s_new (index := 16) (ci := 11) (N := 15) (C := er_11) (T := et_11) (ty0 := ey_11) (fv := eg_11) hq_0 ho_0 rfl ei_11 eo_11 r_m_1_79 r_m_1_80 r_m_1_3 eh_11 rfl (e_newrel ek_11) (by decide +kernel) rfl : e_Sn 0 27 (o_new 11 15 ef_11 30))
noncomputable def n_0_26 : e_Y := u_ld f_okA f_l0 n_0_27
theorem t_0_26 : e_Sn 0 26 (e_un n_0_26) := u_ldAT f_l0_eq (s_aload (i := .aload_n 0) (len := 1) hq_0 (by decide +kernel) rfl (.inr ⟨0, rfl, rfl, rfl⟩) : e_Sn 0 26 (o_load e_okR 0 27)) t_0_27
noncomputable def n_0_23 : e_Y := u_putf 0 1 f_okA (u_old (o_putf (e_f1 0 1) e_okR 26) n_0_26) n_0_26
theorem t_0_23 : e_Sn 0 23 (e_un n_0_23) := u_putfT (fun _ => f_okA_eq) (s_putf (ty0 := ey_0) (ok := e_okR) (C := er_0) (T := et_0) (N := 17) (ref := "Plateroomprinter") (index := 19) (ci := 0) (k := 1) hq_0 ho_0 ⟨rfl, by decide, ei_0, r_m_3_64, .inl rfl⟩ eo_0 en_0 e_oksR (.inr ⟨rfl, rfl, rfl⟩) (by decide +kernel) rfl : e_Sn 0 23 (o_putf (e_f1 0 1) e_okR 26)) t_0_26
noncomputable def n_0_20 : e_Y := u_callI 56 2 21 1 n_56_0 n_0_23
theorem t_0_20 : e_Sn 0 20 (e_un n_0_20) := u_callIT rfl (s_callI (index := 18) hq_0 ho_0 hy_56 hp_56 hc_56 hi_56 hd_56 r_m_1_81 rfl rfl hs_56 (by decide +kernel) rfl : e_Sn 0 20 (o_callI 56 2 1 23)) t_56_0 t_0_23
noncomputable def n_0_19 : e_Y := u_old (o_dup 20) n_0_20
theorem t_0_19 : e_Sn 0 19 (e_un n_0_19) := u_oldT (s_dup hq_0 (by decide +kernel) rfl : e_Sn 0 19 (o_dup 20)) t_0_20 e_cg_dup
noncomputable def n_0_16 : e_Y := u_tab (o_new 11 15 ef_11 19)
theorem t_0_16 : e_Sn 0 16 (e_un n_0_16) := u_tabT (s_new (index := 16) (ci := 11) (N := 15) (C := er_11) (T := et_11) (ty0 := ey_11) (fv := eg_11) hq_0 ho_0 rfl ei_11 eo_11 r_m_1_79 r_m_1_80 r_m_1_3 eh_11 rfl (e_newrel ek_11) (by decide +kernel) rfl : e_Sn 0 16 (o_new 11 15 ef_11 19))
noncomputable def n_0_15 : e_Y := u_ld f_okA f_l0 n_0_16
theorem t_0_15 : e_Sn 0 15 (e_un n_0_15) := u_ldAT f_l0_eq (s_aload (i := .aload_n 0) (len := 1) hq_0 (by decide +kernel) rfl (.inr ⟨0, rfl, rfl, rfl⟩) : e_Sn 0 15 (o_load e_okR 0 16)) t_0_16
noncomputable def n_0_12 : e_Y := u_putf 0 0 f_okA (u_old (o_putf (e_f1 0 0) e_okR 15) n_0_15) n_0_15
theorem t_0_12 : e_Sn 0 12 (e_un n_0_12) := u_putfT (fun _ => f_okA_eq) (s_putf (ty0 := ey_0) (ok := e_okR) (C := er_0) (T := et_0) (N := 17) (ref := "Plateroomprinter") (index := 10) (ci := 0) (k := 0) hq_0 ho_0 ⟨rfl, by decide, ei_0, r_m_3_63, .inl rfl⟩ eo_0 en_0 e_oksR (.inr ⟨rfl, rfl, rfl⟩) (by decide +kernel) rfl : e_Sn 0 12 (o_putf (e_f1 0 0) e_okR 15)) t_0_15
noncomputable def n_0_9 : e_Y := u_callI 7 1 20 1 n_7_0 n_0_12
theorem t_0_9 : e_Sn 0 9 (e_un n_0_9) := u_callIT rfl (s_callIN (host := "Plateroomprinter") (index := 9) hq_0 ho_0 hy_7 hp_7 hc_7 hi_7 hd_7 (r_k1 (List.mem_of_getElem? (i := 57) (by decide +kernel))) rfl rfl hs_7 (by decide +kernel) rfl : e_Sn 0 9 (o_callI 7 1 1 12)) t_7_0 t_0_12
noncomputable def n_0_8 : e_Y := u_old (o_dup 9) n_0_9
theorem t_0_8 : e_Sn 0 8 (e_un n_0_8) := u_oldT (s_dup hq_0 (by decide +kernel) rfl : e_Sn 0 8 (o_dup 9)) t_0_9 e_cg_dup
noncomputable def n_0_5 : e_Y := u_tab (o_new 1 4 ef_1 8)
theorem t_0_5 : e_Sn 0 5 (e_un n_0_5) := u_tabT (s_new (index := 7) (ci := 1) (N := 4) (C := er_1) (T := et_1) (ty0 := ey_1) (fv := eg_1) hq_0 ho_0 rfl ei_1 eo_1 (r_k1 (List.mem_of_getElem? (i := 55) (by decide +kernel))) (r_k1 (List.mem_of_getElem? (i := 56) (by decide +kernel))) r_m_1_2 eh_1 rfl (e_newrel ek_1) (by decide +kernel) rfl : e_Sn 0 5 (o_new 1 4 ef_1 8))
noncomputable def n_0_4 : e_Y := u_ld f_okA f_l0 n_0_5
theorem t_0_4 : e_Sn 0 4 (e_un n_0_4) := u_ldAT f_l0_eq (s_aload (i := .aload_n 0) (len := 1) hq_0 (by decide +kernel) rfl (.inr ⟨0, rfl, rfl, rfl⟩) : e_Sn 0 4 (o_load e_okR 0 5)) t_0_5
noncomputable def n_0_1 : e_Y := u_tab (o_oinit 4)
theorem t_0_1 : e_Sn 0 1 (e_un n_0_1) := u_tabT (s_oinit (idx := 1) hq_0 ho_0 (r_k1 (List.mem_of_getElem? (i := 52) (by decide +kernel))) r_m_1_53 r_m_1_54 (by decide +kernel) rfl : e_Sn 0 1 (o_oinit 4))
noncomputable def n_0_0 : e_Y := u_ld f_okA f_l0 n_0_1
theorem t_0_0 : e_Sn 0 0 (e_un n_0_0) := u_ldAT f_l0_eq (s_aload (i := .aload_n 0) (len := 1) hq_0 (by decide +kernel) rfl (.inr ⟨0, rfl, rfl, rfl⟩) : e_Sn 0 0 (o_load e_okR 0 1)) t_0_1
noncomputable def e_tb_0 : e_X := (e_br 71 (e_br 19 (e_br 4 (e_lf 0 (e_un n_0_0)) (e_br 8 (e_lf 4 (e_un n_0_4)) (e_lf 8 (e_un n_0_8)))) (e_br 41 (e_br 30 (e_lf 19 (e_un n_0_19)) (e_lf 30 (e_un n_0_30))) (e_br 52 (e_lf 41 (e_un n_0_41)) (e_lf 52 (e_un n_0_52))))) (e_br 118 (e_br 102 (e_br 90 (e_lf 71 (e_un n_0_71)) (e_lf 90 (e_un n_0_90))) (e_br 110 (e_lf 102 (e_un n_0_102)) (e_lf 110 (e_un n_0_110)))) (e_br 134 (e_br 126 (e_lf 118 (e_un n_0_118)) (e_lf 126 (e_un n_0_126))) (e_br 143 (e_lf 134 (e_un n_0_134)) (e_lf 143 (e_un n_0_143))))))
theorem e_tk_0 : e_Tb 0 e_tb_0 := (e_brT (e_brT (e_brT (e_lfT t_0_0) (e_brT (e_lfT t_0_4) (e_lfT t_0_8))) (e_brT (e_brT (e_lfT t_0_19) (e_lfT t_0_30)) (e_brT (e_lfT t_0_41) (e_lfT t_0_52)))) (e_brT (e_brT (e_brT (e_lfT t_0_71) (e_lfT t_0_90)) (e_brT (e_lfT t_0_102) (e_lfT t_0_110))) (e_brT (e_brT (e_lfT t_0_118) (e_lfT t_0_126)) (e_brT (e_lfT t_0_134) (e_lfT t_0_143)))))
theorem hq_2 : (e_ml[2]?).map (·.2.1) = some prog_1_method_10_code := Eq.trans (congrArg (Option.map (fun e => e.2.1)) hy_2) rfl
theorem ho_2 : (e_ml[2]?).map (·.1.cls) = some "Plateroomprinter" := Eq.trans (congrArg (Option.map (fun e => e.1.cls)) hy_2) rfl
theorem hr_2 : (e_ml[2]?).map (·.2.2.2) = some (some .boolean) := Eq.trans (congrArg (Option.map (fun e => e.2.2.2)) hy_2) rfl
noncomputable def n_2_101 : e_Y := u_tab (o_ret e_okZ)
theorem t_2_101 : e_Sn 2 101 (e_un n_2_101) := u_tabT (s_zret hq_2 hr_2 (by decide +kernel) : e_Sn 2 101 (o_ret e_okZ))
noncomputable def n_2_97 : e_Y := n_2_101
theorem t_2_97 : e_Sn 2 97 (e_un n_2_97) := u_gotoT (s_goto (off := (4)) hq_2 (by decide +kernel) rfl : e_Sn 2 97 (o_goto 101)) t_2_101
noncomputable def n_2_96 : e_Y := u_push (.inl 2147483649) n_2_97
theorem t_2_96 : e_Sn 2 96 (e_un n_2_96) := u_pushT (s_iconst (n := (1)) hq_2 (by decide +kernel) rfl ⟨by decide +kernel, by decide +kernel⟩ : e_Sn 2 96 (o_push (.inl 2147483649) 97)) t_2_97
noncomputable def n_2_93 : e_Y := u_if y_ne0 (u_old2 (o_ifeq 96 100) 96 n_2_96 (u_at 100)) n_2_96 (u_at 100)
theorem t_2_93 : e_Sn 2 93 (e_un n_2_93) := u_ifeqT rfl (s_ifne (off := (7)) hq_2 (by decide +kernel) rfl rfl : e_Sn 2 93 (o_ifeq 96 100)) t_2_96 u_atT
noncomputable def n_2_92 : e_Y := u_ld f_okI f_l1 n_2_93
theorem t_2_92 : e_Sn 2 92 (e_un n_2_92) := u_ldIT f_l1_eq (s_iload (i := .iload_n 1) (len := 1) hq_2 (by decide +kernel) rfl (.inr ⟨1, rfl, rfl, rfl⟩) : e_Sn 2 92 (o_load e_okI 1 93)) t_2_93
noncomputable def n_2_75 : e_Y := u_tab (o_ret e_okZ)
theorem t_2_75 : e_Sn 2 75 (e_un n_2_75) := u_tabT (s_zret hq_2 hr_2 (by decide +kernel) : e_Sn 2 75 (o_ret e_okZ))
noncomputable def n_2_71 : e_Y := n_2_75
theorem t_2_71 : e_Sn 2 71 (e_un n_2_71) := u_gotoT (s_goto (off := (4)) hq_2 (by decide +kernel) rfl : e_Sn 2 71 (o_goto 75)) t_2_75
noncomputable def n_2_70 : e_Y := u_push (.inl 2147483649) n_2_71
theorem t_2_70 : e_Sn 2 70 (e_un n_2_70) := u_pushT (s_iconst (n := (1)) hq_2 (by decide +kernel) rfl ⟨by decide +kernel, by decide +kernel⟩ : e_Sn 2 70 (o_push (.inl 2147483649) 71)) t_2_71
noncomputable def n_2_67 : e_Y := u_jmp y_ge (u_old2 (o_clt 70 74) 70 n_2_70 (u_at 74)) n_2_70 (u_at 74)
theorem t_2_67 : e_Sn 2 67 (e_un n_2_67) := u_cltT rfl (s_cge (off := (7)) hq_2 (by decide +kernel) rfl rfl : e_Sn 2 67 (o_clt 70 74)) t_2_70 u_atT
noncomputable def n_2_65 : e_Y := u_push (.inl 2147483701) n_2_67
theorem t_2_65 : e_Sn 2 65 (e_un n_2_65) := u_pushT (s_bipush (n := (53)) hq_2 (by decide +kernel) rfl ⟨by decide +kernel, by decide +kernel⟩ : e_Sn 2 65 (o_push (.inl 2147483701) 67)) t_2_67
noncomputable def n_2_64 : e_Y := u_ld f_okI f_l1 n_2_65
theorem t_2_64 : e_Sn 2 64 (e_un n_2_64) := u_ldIT f_l1_eq (s_iload (i := .iload_n 1) (len := 1) hq_2 (by decide +kernel) rfl (.inr ⟨1, rfl, rfl, rfl⟩) : e_Sn 2 64 (o_load e_okI 1 65)) t_2_65
noncomputable def n_2_61 : e_Y := u_if y_ge0 (u_old2 (o_iflt 74 64) 74 (u_at 74) n_2_64) (u_at 74) n_2_64
theorem t_2_61 : e_Sn 2 61 (e_un n_2_61) := u_ifltT rfl (s_iflt (off := (13)) hq_2 (by decide +kernel) rfl rfl : e_Sn 2 61 (o_iflt 74 64)) u_atT t_2_64
noncomputable def n_2_60 : e_Y := u_ld f_okI f_l1 n_2_61
theorem t_2_60 : e_Sn 2 60 (e_un n_2_60) := u_ldIT f_l1_eq (s_iload (i := .iload_n 1) (len := 1) hq_2 (by decide +kernel) rfl (.inr ⟨1, rfl, rfl, rfl⟩) : e_Sn 2 60 (o_load e_okI 1 61)) t_2_61
noncomputable def n_2_59 : e_Y := u_tab (o_ret e_okZ)
theorem t_2_59 : e_Sn 2 59 (e_un n_2_59) := u_tabT (s_zret hq_2 hr_2 (by decide +kernel) : e_Sn 2 59 (o_ret e_okZ))
noncomputable def n_2_55 : e_Y := n_2_59
theorem t_2_55 : e_Sn 2 55 (e_un n_2_55) := u_gotoT (s_goto (off := (4)) hq_2 (by decide +kernel) rfl : e_Sn 2 55 (o_goto 59)) t_2_59
noncomputable def n_2_54 : e_Y := u_push (.inl 2147483649) n_2_55
theorem t_2_54 : e_Sn 2 54 (e_un n_2_54) := u_pushT (s_iconst (n := (1)) hq_2 (by decide +kernel) rfl ⟨by decide +kernel, by decide +kernel⟩ : e_Sn 2 54 (o_push (.inl 2147483649) 55)) t_2_55
noncomputable def n_2_51 : e_Y := u_jmp y_le (u_old2 (o_cgt 58 54) 58 (u_at 58) n_2_54) (u_at 58) n_2_54
theorem t_2_51 : e_Sn 2 51 (e_un n_2_51) := u_cgtT rfl (s_cgt (off := (7)) hq_2 (by decide +kernel) rfl rfl : e_Sn 2 51 (o_cgt 58 54)) u_atT t_2_54
noncomputable def n_2_48 : e_Y := u_push (.inl 2147493647) n_2_51
theorem t_2_48 : e_Sn 2 48 (e_un n_2_48) := u_pushT (s_sipush (n := (9999)) hq_2 (by decide +kernel) rfl ⟨by decide +kernel, by decide +kernel⟩ : e_Sn 2 48 (o_push (.inl 2147493647) 51)) t_2_51
noncomputable def n_2_47 : e_Y := u_ld f_okI f_l1 n_2_48
theorem t_2_47 : e_Sn 2 47 (e_un n_2_47) := u_ldIT f_l1_eq (s_iload (i := .iload_n 1) (len := 1) hq_2 (by decide +kernel) rfl (.inr ⟨1, rfl, rfl, rfl⟩) : e_Sn 2 47 (o_load e_okI 1 48)) t_2_48
noncomputable def n_2_44 : e_Y := u_jmp y_ge (u_old2 (o_clt 58 47) 58 (u_at 58) n_2_47) (u_at 58) n_2_47
theorem t_2_44 : e_Sn 2 44 (e_un n_2_44) := u_cltT rfl (s_clt (off := (14)) hq_2 (by decide +kernel) rfl rfl : e_Sn 2 44 (o_clt 58 47)) u_atT t_2_47
noncomputable def n_2_41 : e_Y := u_push (.inl 2147473649) n_2_44
theorem t_2_41 : e_Sn 2 41 (e_un n_2_41) := u_pushT (s_sipush (n := (-9999)) hq_2 (by decide +kernel) rfl ⟨by decide +kernel, by decide +kernel⟩ : e_Sn 2 41 (o_push (.inl 2147473649) 44)) t_2_44
noncomputable def n_2_40 : e_Y := u_ld f_okI f_l1 n_2_41
theorem t_2_40 : e_Sn 2 40 (e_un n_2_40) := u_ldIT f_l1_eq (s_iload (i := .iload_n 1) (len := 1) hq_2 (by decide +kernel) rfl (.inr ⟨1, rfl, rfl, rfl⟩) : e_Sn 2 40 (o_load e_okI 1 41)) t_2_41
noncomputable def n_2_1 : e_Y := u_tab (o_switch 2147483648 [40, 60, 76, 76, 92, 92] 102)
theorem t_2_1 : e_Sn 2 1 (e_un n_2_1) := u_tabT (s_switch (dflt := (101)) (low := (0)) (hi := (5)) (offs := #[(39), (59), (75), (75), (91), (91)]) (len := 39) hq_2 (by decide +kernel) rfl rfl rfl rfl : e_Sn 2 1 (o_switch 2147483648 [40, 60, 76, 76, 92, 92] 102))
noncomputable def n_2_0 : e_Y := u_ld f_okI f_l0 n_2_1
theorem t_2_0 : e_Sn 2 0 (e_un n_2_0) := u_ldIT f_l0_eq (s_iload (i := .iload_n 0) (len := 1) hq_2 (by decide +kernel) rfl (.inr ⟨0, rfl, rfl, rfl⟩) : e_Sn 2 0 (o_load e_okI 0 1)) t_2_1
noncomputable def e_tb_2 : e_X := (e_br 60 (e_br 40 (e_lf 0 (e_un n_2_0)) (e_lf 40 (e_un n_2_40))) (e_br 92 (e_lf 60 (e_un n_2_60)) (e_lf 92 (e_un n_2_92))))
theorem e_tk_2 : e_Tb 2 e_tb_2 := (e_brT (e_brT (e_lfT t_2_0) (e_lfT t_2_40)) (e_brT (e_lfT t_2_60) (e_lfT t_2_92)))
theorem hq_4 : (e_ml[4]?).map (·.2.1) = some prog_1_method_9_code := Eq.trans (congrArg (Option.map (fun e => e.2.1)) hy_4) rfl
theorem ho_4 : (e_ml[4]?).map (·.1.cls) = some "Plateroomprinter" := Eq.trans (congrArg (Option.map (fun e => e.1.cls)) hy_4) rfl
theorem hr_4 : (e_ml[4]?).map (·.2.2.2) = some none := Eq.trans (congrArg (Option.map (fun e => e.2.2.2)) hy_4) rfl
noncomputable def n_4_15 : e_Y := u_retV
theorem t_4_15 : e_Sn 4 15 (e_un n_4_15) := u_retVT (s_vret hq_4 hr_4 (by decide +kernel) : e_Sn 4 15 (o_retv))
noncomputable def n_4_12 : e_Y := u_putf 0 16 f_okI (u_old (o_putf (e_f1 0 16) e_okI 15) n_4_15) n_4_15
theorem t_4_12 : e_Sn 4 12 (e_un n_4_12) := u_putfT (fun _ => f_okI_eq) (s_putf (ty0 := ey_0) (ok := e_okI) (C := er_0) (T := et_0) (N := 17) (ref := "Plateroomprinter") (index := 87) (ci := 0) (k := 16) hq_4 ho_4 ⟨rfl, by decide, ei_0, r_m_3_79, .inl rfl⟩ eo_0 en_0 e_oksI (.inl rfl) (by decide +kernel) rfl : e_Sn 4 12 (o_putf (e_f1 0 16) e_okI 15)) t_4_15
noncomputable def n_4_11 : e_Y := u_ld f_okI f_l3 n_4_12
theorem t_4_11 : e_Sn 4 11 (e_un n_4_11) := u_ldIT f_l3_eq (s_iload (i := .iload_n 3) (len := 1) hq_4 (by decide +kernel) rfl (.inr ⟨3, rfl, rfl, rfl⟩) : e_Sn 4 11 (o_load e_okI 3 12)) t_4_12
noncomputable def n_4_10 : e_Y := u_ld f_okA f_l0 n_4_11
theorem t_4_10 : e_Sn 4 10 (e_un n_4_10) := u_ldAT f_l0_eq (s_aload (i := .aload_n 0) (len := 1) hq_4 (by decide +kernel) rfl (.inr ⟨0, rfl, rfl, rfl⟩) : e_Sn 4 10 (o_load e_okR 0 11)) t_4_11
noncomputable def n_4_7 : e_Y := u_putf 0 15 f_okI (u_old (o_putf (e_f1 0 15) e_okI 10) n_4_10) n_4_10
theorem t_4_7 : e_Sn 4 7 (e_un n_4_7) := u_putfT (fun _ => f_okI_eq) (s_putf (ty0 := ey_0) (ok := e_okI) (C := er_0) (T := et_0) (N := 17) (ref := "Plateroomprinter") (index := 84) (ci := 0) (k := 15) hq_4 ho_4 ⟨rfl, by decide, ei_0, r_m_3_78, .inl rfl⟩ eo_0 en_0 e_oksI (.inl rfl) (by decide +kernel) rfl : e_Sn 4 7 (o_putf (e_f1 0 15) e_okI 10)) t_4_10
noncomputable def n_4_6 : e_Y := u_ld f_okI f_l2 n_4_7
theorem t_4_6 : e_Sn 4 6 (e_un n_4_6) := u_ldIT f_l2_eq (s_iload (i := .iload_n 2) (len := 1) hq_4 (by decide +kernel) rfl (.inr ⟨2, rfl, rfl, rfl⟩) : e_Sn 4 6 (o_load e_okI 2 7)) t_4_7
noncomputable def n_4_5 : e_Y := u_ld f_okA f_l0 n_4_6
theorem t_4_5 : e_Sn 4 5 (e_un n_4_5) := u_ldAT f_l0_eq (s_aload (i := .aload_n 0) (len := 1) hq_4 (by decide +kernel) rfl (.inr ⟨0, rfl, rfl, rfl⟩) : e_Sn 4 5 (o_load e_okR 0 6)) t_4_6
noncomputable def n_4_2 : e_Y := u_putf 0 14 f_okI (u_old (o_putf (e_f1 0 14) e_okI 5) n_4_5) n_4_5
theorem t_4_2 : e_Sn 4 2 (e_un n_4_2) := u_putfT (fun _ => f_okI_eq) (s_putf (ty0 := ey_0) (ok := e_okI) (C := er_0) (T := et_0) (N := 17) (ref := "Plateroomprinter") (index := 81) (ci := 0) (k := 14) hq_4 ho_4 ⟨rfl, by decide, ei_0, r_m_3_77, .inl rfl⟩ eo_0 en_0 e_oksI (.inl rfl) (by decide +kernel) rfl : e_Sn 4 2 (o_putf (e_f1 0 14) e_okI 5)) t_4_5
noncomputable def n_4_1 : e_Y := u_ld f_okI f_l1 n_4_2
theorem t_4_1 : e_Sn 4 1 (e_un n_4_1) := u_ldIT f_l1_eq (s_iload (i := .iload_n 1) (len := 1) hq_4 (by decide +kernel) rfl (.inr ⟨1, rfl, rfl, rfl⟩) : e_Sn 4 1 (o_load e_okI 1 2)) t_4_2
noncomputable def n_4_0 : e_Y := u_ld f_okA f_l0 n_4_1
theorem t_4_0 : e_Sn 4 0 (e_un n_4_0) := u_ldAT f_l0_eq (s_aload (i := .aload_n 0) (len := 1) hq_4 (by decide +kernel) rfl (.inr ⟨0, rfl, rfl, rfl⟩) : e_Sn 4 0 (o_load e_okR 0 1)) t_4_1
noncomputable def e_tb_4 : e_X := (e_lf 0 (e_un n_4_0))
theorem e_tk_4 : e_Tb 4 e_tb_4 := (e_lfT t_4_0)
theorem hq_12 : (e_ml[12]?).map (·.2.1) = some prog_2_method_6_code := Eq.trans (congrArg (Option.map (fun e => e.2.1)) hy_12) rfl
theorem ho_12 : (e_ml[12]?).map (·.1.cls) = some "Plateroomprinter$Code" := Eq.trans (congrArg (Option.map (fun e => e.1.cls)) hy_12) rfl
theorem hr_12 : (e_ml[12]?).map (·.2.2.2) = some none := Eq.trans (congrArg (Option.map (fun e => e.2.2.2)) hy_12) rfl
noncomputable def n_12_33 : e_Y := u_retV
theorem t_12_33 : e_Sn 12 33 (e_un n_12_33) := u_retVT (s_vret hq_12 hr_12 (by decide +kernel) : e_Sn 12 33 (o_retv))
noncomputable def n_12_25 : e_Y := u_jmp y_le (u_old2 (o_cgt 28 33) 28 (u_at 28) n_12_33) (u_at 28) n_12_33
theorem t_12_25 : e_Sn 12 25 (e_un n_12_25) := u_cgtT rfl (s_cle (off := (8)) hq_12 (by decide +kernel) rfl rfl : e_Sn 12 25 (o_cgt 28 33)) u_atT t_12_33
noncomputable def n_12_22 : e_Y := u_push (.inl 2147485248) n_12_25
theorem t_12_22 : e_Sn 12 22 (e_un n_12_22) := u_pushT (s_sipush (n := (1600)) hq_12 (by decide +kernel) rfl ⟨by decide +kernel, by decide +kernel⟩ : e_Sn 12 22 (o_push (.inl 2147485248) 25)) t_12_25
noncomputable def n_12_19 : e_Y := u_getf 1 2 (u_old (o_getf (e_f1 1 2) 22) n_12_22) n_12_22
theorem t_12_19 : e_Sn 12 19 (e_un n_12_19) := u_getfT (s_getf (C := er_1) (T := et_1) (N := 4) (ref := "Plateroomprinter$Code") (index := 18) (ci := 1) (k := 2) hq_12 ho_12 ⟨rfl, by decide, ei_1, r_m_1_63, .inl rfl⟩ (by decide +kernel) rfl : e_Sn 12 19 (o_getf (e_f1 1 2) 22)) t_12_22
noncomputable def n_12_18 : e_Y := u_ld f_okA f_l0 n_12_19
theorem t_12_18 : e_Sn 12 18 (e_un n_12_18) := u_ldAT f_l0_eq (s_aload (i := .aload_n 0) (len := 1) hq_12 (by decide +kernel) rfl (.inr ⟨0, rfl, rfl, rfl⟩) : e_Sn 12 18 (o_load e_okR 0 19)) t_12_19
noncomputable def n_12_15 : e_Y := u_putf 1 3 f_okI (u_old (o_putf (e_f1 1 3) e_okI 18) n_12_18) n_12_18
theorem t_12_15 : e_Sn 12 15 (e_un n_12_15) := u_putfT (fun _ => f_okI_eq) (s_putf (ty0 := ey_1) (ok := e_okI) (C := er_1) (T := et_1) (N := 4) (ref := "Plateroomprinter$Code") (index := 22) (ci := 1) (k := 3) hq_12 ho_12 ⟨rfl, by decide, ei_1, r_m_1_66, .inl rfl⟩ eo_1 en_1 e_oksI (.inl rfl) (by decide +kernel) rfl : e_Sn 12 15 (o_putf (e_f1 1 3) e_okI 18)) t_12_18
noncomputable def n_12_14 : e_Y := u_push (.inl 2147483648) n_12_15
theorem t_12_14 : e_Sn 12 14 (e_un n_12_14) := u_pushT (s_iconst (n := (0)) hq_12 (by decide +kernel) rfl ⟨by decide +kernel, by decide +kernel⟩ : e_Sn 12 14 (o_push (.inl 2147483648) 15)) t_12_15
noncomputable def n_12_13 : e_Y := u_ld f_okA f_l0 n_12_14
theorem t_12_13 : e_Sn 12 13 (e_un n_12_13) := u_ldAT f_l0_eq (s_aload (i := .aload_n 0) (len := 1) hq_12 (by decide +kernel) rfl (.inr ⟨0, rfl, rfl, rfl⟩) : e_Sn 12 13 (o_load e_okR 0 14)) t_12_14
noncomputable def n_12_10 : e_Y := u_putf 1 2 f_okI (u_old (o_putf (e_f1 1 2) e_okI 13) n_12_13) n_12_13
theorem t_12_10 : e_Sn 12 10 (e_un n_12_10) := u_putfT (fun _ => f_okI_eq) (s_putf (ty0 := ey_1) (ok := e_okI) (C := er_1) (T := et_1) (N := 4) (ref := "Plateroomprinter$Code") (index := 18) (ci := 1) (k := 2) hq_12 ho_12 ⟨rfl, by decide, ei_1, r_m_1_63, .inl rfl⟩ eo_1 en_1 e_oksI (.inl rfl) (by decide +kernel) rfl : e_Sn 12 10 (o_putf (e_f1 1 2) e_okI 13)) t_12_13
noncomputable def n_12_9 : e_Y := u_bin a_iadd (u_old (o_iadd 10) n_12_10) n_12_10
theorem t_12_9 : e_Sn 12 9 (e_un n_12_9) := u_iaddT (s_iadd hq_12 (by decide +kernel) rfl : e_Sn 12 9 (o_iadd 10)) t_12_10
noncomputable def n_12_6 : e_Y := u_getf 1 3 (u_old (o_getf (e_f1 1 3) 9) n_12_9) n_12_9
theorem t_12_6 : e_Sn 12 6 (e_un n_12_6) := u_getfT (s_getf (C := er_1) (T := et_1) (N := 4) (ref := "Plateroomprinter$Code") (index := 22) (ci := 1) (k := 3) hq_12 ho_12 ⟨rfl, by decide, ei_1, r_m_1_66, .inl rfl⟩ (by decide +kernel) rfl : e_Sn 12 6 (o_getf (e_f1 1 3) 9)) t_12_9
noncomputable def n_12_5 : e_Y := u_ld f_okA f_l0 n_12_6
theorem t_12_5 : e_Sn 12 5 (e_un n_12_5) := u_ldAT f_l0_eq (s_aload (i := .aload_n 0) (len := 1) hq_12 (by decide +kernel) rfl (.inr ⟨0, rfl, rfl, rfl⟩) : e_Sn 12 5 (o_load e_okR 0 6)) t_12_6
noncomputable def n_12_2 : e_Y := u_getf 1 2 (u_old (o_getf (e_f1 1 2) 5) n_12_5) n_12_5
theorem t_12_2 : e_Sn 12 2 (e_un n_12_2) := u_getfT (s_getf (C := er_1) (T := et_1) (N := 4) (ref := "Plateroomprinter$Code") (index := 18) (ci := 1) (k := 2) hq_12 ho_12 ⟨rfl, by decide, ei_1, r_m_1_63, .inl rfl⟩ (by decide +kernel) rfl : e_Sn 12 2 (o_getf (e_f1 1 2) 5)) t_12_5
noncomputable def n_12_1 : e_Y := u_old (o_dup 2) n_12_2
theorem t_12_1 : e_Sn 12 1 (e_un n_12_1) := u_oldT (s_dup hq_12 (by decide +kernel) rfl : e_Sn 12 1 (o_dup 2)) t_12_2 e_cg_dup
noncomputable def n_12_0 : e_Y := u_ld f_okA f_l0 n_12_1
theorem t_12_0 : e_Sn 12 0 (e_un n_12_0) := u_ldAT f_l0_eq (s_aload (i := .aload_n 0) (len := 1) hq_12 (by decide +kernel) rfl (.inr ⟨0, rfl, rfl, rfl⟩) : e_Sn 12 0 (o_load e_okR 0 1)) t_12_1
noncomputable def e_tb_12 : e_X := (e_lf 0 (e_un n_12_0))
theorem e_tk_12 : e_Tb 12 e_tb_12 := (e_lfT t_12_0)
end SN
