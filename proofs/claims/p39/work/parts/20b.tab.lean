/-! TABLES, by program -/
section SN
theorem hq_17 : (e_ml[17]?).map (·.2.1) = some prog_3_method_11_code := Eq.trans (congrArg (Option.map (fun e => e.2.1)) hy_17) rfl
theorem ho_17 : (e_ml[17]?).map (·.1.cls) = some "Plateroomprinter$Engine" := Eq.trans (congrArg (Option.map (fun e => e.1.cls)) hy_17) rfl
theorem hr_17 : (e_ml[17]?).map (·.2.2.2) = some (some .int) := Eq.trans (congrArg (Option.map (fun e => e.2.2.2)) hy_17) rfl
noncomputable def n_17_82 : e_Y := u_retI
theorem t_17_82 : e_Sn 17 82 (e_un n_17_82) := u_retIT (s_iret hq_17 hr_17 (by decide +kernel) : e_Sn 17 82 (o_ret e_okI))
noncomputable def n_17_81 : e_Y := u_push (.inl 2147483648) n_17_82
theorem t_17_81 : e_Sn 17 81 (e_un n_17_81) := u_pushT (s_iconst (n := (0)) hq_17 (by decide +kernel) rfl ⟨by decide +kernel, by decide +kernel⟩ : e_Sn 17 81 (o_push (.inl 2147483648) 82)) t_17_82
noncomputable def n_17_78 : e_Y := u_putf 2 13 f_okI (u_old (o_putf (e_f1 2 13) e_okI 81) n_17_81) n_17_81
theorem t_17_78 : e_Sn 17 78 (e_un n_17_78) := u_putfT (fun _ => f_okI_eq) (s_putf (ty0 := ey_2) (ok := e_okI) (C := er_2) (T := et_2) (N := 19) (ref := "Plateroomprinter$Engine") (index := 53) (ci := 2) (k := 13) hq_17 ho_17 ⟨rfl, by decide, ei_2, r_m_3_13, .inl rfl⟩ eo_2 en_2 e_oksI (.inl rfl) (by decide +kernel) rfl : e_Sn 17 78 (o_putf (e_f1 2 13) e_okI 81)) t_17_81
noncomputable def n_17_77 : e_Y := u_bin a_iadd (u_old (o_iadd 78) n_17_78) n_17_78
theorem t_17_77 : e_Sn 17 77 (e_un n_17_77) := u_iaddT (s_iadd hq_17 (by decide +kernel) rfl : e_Sn 17 77 (o_iadd 78)) t_17_78
noncomputable def n_17_76 : e_Y := u_push (.inl 2147483649) n_17_77
theorem t_17_76 : e_Sn 17 76 (e_un n_17_76) := u_pushT (s_iconst (n := (1)) hq_17 (by decide +kernel) rfl ⟨by decide +kernel, by decide +kernel⟩ : e_Sn 17 76 (o_push (.inl 2147483649) 77)) t_17_77
noncomputable def n_17_73 : e_Y := u_getf 2 13 (u_old (o_getf (e_f1 2 13) 76) n_17_76) n_17_76
theorem t_17_73 : e_Sn 17 73 (e_un n_17_73) := u_getfT (s_getf (C := er_2) (T := et_2) (N := 19) (ref := "Plateroomprinter$Engine") (index := 53) (ci := 2) (k := 13) hq_17 ho_17 ⟨rfl, by decide, ei_2, r_m_3_13, .inl rfl⟩ (by decide +kernel) rfl : e_Sn 17 73 (o_getf (e_f1 2 13) 76)) t_17_76
noncomputable def n_17_72 : e_Y := u_old (o_dup 73) n_17_73
theorem t_17_72 : e_Sn 17 72 (e_un n_17_72) := u_oldT (s_dup hq_17 (by decide +kernel) rfl : e_Sn 17 72 (o_dup 73)) t_17_73 e_cg_dup
noncomputable def n_17_71 : e_Y := u_ld f_okA f_l0 n_17_72
theorem t_17_71 : e_Sn 17 71 (e_un n_17_71) := u_ldAT f_l0_eq (s_aload (i := .aload_n 0) (len := 1) hq_17 (by decide +kernel) rfl (.inr ⟨0, rfl, rfl, rfl⟩) : e_Sn 17 71 (o_load e_okR 0 72)) t_17_72
noncomputable def n_17_70 : e_Y := u_ast 0 f_okI (u_old (o_ast 0 e_okI 71) n_17_71) n_17_71
theorem t_17_70 : e_Sn 17 70 (e_un n_17_70) := u_astT (fun _ => f_okI_eq) (s_iast hq_17 (by decide +kernel) rfl : e_Sn 17 70 (o_ast 0 e_okI 71)) t_17_71
noncomputable def n_17_69 : e_Y := u_push (.inl 2147483648) n_17_70
theorem t_17_69 : e_Sn 17 69 (e_un n_17_69) := u_pushT (s_iconst (n := (0)) hq_17 (by decide +kernel) rfl ⟨by decide +kernel, by decide +kernel⟩ : e_Sn 17 69 (o_push (.inl 2147483648) 70)) t_17_70
noncomputable def n_17_66 : e_Y := u_getf 2 13 (u_old (o_getf (e_f1 2 13) 69) n_17_69) n_17_69
theorem t_17_66 : e_Sn 17 66 (e_un n_17_66) := u_getfT (s_getf (C := er_2) (T := et_2) (N := 19) (ref := "Plateroomprinter$Engine") (index := 53) (ci := 2) (k := 13) hq_17 ho_17 ⟨rfl, by decide, ei_2, r_m_3_13, .inl rfl⟩ (by decide +kernel) rfl : e_Sn 17 66 (o_getf (e_f1 2 13) 69)) t_17_69
noncomputable def n_17_65 : e_Y := u_ld f_okA f_l0 n_17_66
theorem t_17_65 : e_Sn 17 65 (e_un n_17_65) := u_ldAT f_l0_eq (s_aload (i := .aload_n 0) (len := 1) hq_17 (by decide +kernel) rfl (.inr ⟨0, rfl, rfl, rfl⟩) : e_Sn 17 65 (o_load e_okR 0 66)) t_17_66
noncomputable def n_17_62 : e_Y := u_getf 2 9 (u_old (o_getf (e_f1 2 9) 65) n_17_65) n_17_65
theorem t_17_62 : e_Sn 17 62 (e_un n_17_62) := u_getfT (s_getf (C := er_2) (T := et_2) (N := 19) (ref := "Plateroomprinter$Engine") (index := 33) (ci := 2) (k := 9) hq_17 ho_17 ⟨rfl, by decide, ei_2, r_m_3_9, .inl rfl⟩ (by decide +kernel) rfl : e_Sn 17 62 (o_getf (e_f1 2 9) 65)) t_17_65
noncomputable def n_17_61 : e_Y := u_ld f_okA f_l0 n_17_62
theorem t_17_61 : e_Sn 17 61 (e_un n_17_61) := u_ldAT f_l0_eq (s_aload (i := .aload_n 0) (len := 1) hq_17 (by decide +kernel) rfl (.inr ⟨0, rfl, rfl, rfl⟩) : e_Sn 17 61 (o_load e_okR 0 62)) t_17_62
noncomputable def n_17_60 : e_Y := u_ast 0 f_okI (u_old (o_ast 0 e_okI 61) n_17_61) n_17_61
theorem t_17_60 : e_Sn 17 60 (e_un n_17_60) := u_astT (fun _ => f_okI_eq) (s_iast hq_17 (by decide +kernel) rfl : e_Sn 17 60 (o_ast 0 e_okI 61)) t_17_61
noncomputable def n_17_59 : e_Y := u_ld f_okI f_l1 n_17_60
theorem t_17_59 : e_Sn 17 59 (e_un n_17_59) := u_ldIT f_l1_eq (s_iload (i := .iload_n 1) (len := 1) hq_17 (by decide +kernel) rfl (.inr ⟨1, rfl, rfl, rfl⟩) : e_Sn 17 59 (o_load e_okI 1 60)) t_17_60
noncomputable def n_17_56 : e_Y := u_getf 2 13 (u_old (o_getf (e_f1 2 13) 59) n_17_59) n_17_59
theorem t_17_56 : e_Sn 17 56 (e_un n_17_56) := u_getfT (s_getf (C := er_2) (T := et_2) (N := 19) (ref := "Plateroomprinter$Engine") (index := 53) (ci := 2) (k := 13) hq_17 ho_17 ⟨rfl, by decide, ei_2, r_m_3_13, .inl rfl⟩ (by decide +kernel) rfl : e_Sn 17 56 (o_getf (e_f1 2 13) 59)) t_17_59
noncomputable def n_17_55 : e_Y := u_ld f_okA f_l0 n_17_56
theorem t_17_55 : e_Sn 17 55 (e_un n_17_55) := u_ldAT f_l0_eq (s_aload (i := .aload_n 0) (len := 1) hq_17 (by decide +kernel) rfl (.inr ⟨0, rfl, rfl, rfl⟩) : e_Sn 17 55 (o_load e_okR 0 56)) t_17_56
noncomputable def n_17_52 : e_Y := u_getf 2 8 (u_old (o_getf (e_f1 2 8) 55) n_17_55) n_17_55
theorem t_17_52 : e_Sn 17 52 (e_un n_17_52) := u_getfT (s_getf (C := er_2) (T := et_2) (N := 19) (ref := "Plateroomprinter$Engine") (index := 30) (ci := 2) (k := 8) hq_17 ho_17 ⟨rfl, by decide, ei_2, r_m_3_8, .inl rfl⟩ (by decide +kernel) rfl : e_Sn 17 52 (o_getf (e_f1 2 8) 55)) t_17_55
noncomputable def n_17_51 : e_Y := u_ld f_okA f_l0 n_17_52
theorem t_17_51 : e_Sn 17 51 (e_un n_17_51) := u_ldAT f_l0_eq (s_aload (i := .aload_n 0) (len := 1) hq_17 (by decide +kernel) rfl (.inr ⟨0, rfl, rfl, rfl⟩) : e_Sn 17 51 (o_load e_okR 0 52)) t_17_52
noncomputable def n_17_50 : e_Y := u_ast 0 f_okI (u_old (o_ast 0 e_okI 51) n_17_51) n_17_51
theorem t_17_50 : e_Sn 17 50 (e_un n_17_50) := u_astT (fun _ => f_okI_eq) (s_iast hq_17 (by decide +kernel) rfl : e_Sn 17 50 (o_ast 0 e_okI 51)) t_17_51
noncomputable def n_17_49 : e_Y := u_ld f_okI f_l1 n_17_50
theorem t_17_49 : e_Sn 17 49 (e_un n_17_49) := u_ldIT f_l1_eq (s_iload (i := .iload_n 1) (len := 1) hq_17 (by decide +kernel) rfl (.inr ⟨1, rfl, rfl, rfl⟩) : e_Sn 17 49 (o_load e_okI 1 50)) t_17_50
noncomputable def n_17_46 : e_Y := u_getf 2 13 (u_old (o_getf (e_f1 2 13) 49) n_17_49) n_17_49
theorem t_17_46 : e_Sn 17 46 (e_un n_17_46) := u_getfT (s_getf (C := er_2) (T := et_2) (N := 19) (ref := "Plateroomprinter$Engine") (index := 53) (ci := 2) (k := 13) hq_17 ho_17 ⟨rfl, by decide, ei_2, r_m_3_13, .inl rfl⟩ (by decide +kernel) rfl : e_Sn 17 46 (o_getf (e_f1 2 13) 49)) t_17_49
noncomputable def n_17_45 : e_Y := u_ld f_okA f_l0 n_17_46
theorem t_17_45 : e_Sn 17 45 (e_un n_17_45) := u_ldAT f_l0_eq (s_aload (i := .aload_n 0) (len := 1) hq_17 (by decide +kernel) rfl (.inr ⟨0, rfl, rfl, rfl⟩) : e_Sn 17 45 (o_load e_okR 0 46)) t_17_46
noncomputable def n_17_42 : e_Y := u_getf 2 7 (u_old (o_getf (e_f1 2 7) 45) n_17_45) n_17_45
theorem t_17_42 : e_Sn 17 42 (e_un n_17_42) := u_getfT (s_getf (C := er_2) (T := et_2) (N := 19) (ref := "Plateroomprinter$Engine") (index := 27) (ci := 2) (k := 7) hq_17 ho_17 ⟨rfl, by decide, ei_2, r_m_3_7, .inl rfl⟩ (by decide +kernel) rfl : e_Sn 17 42 (o_getf (e_f1 2 7) 45)) t_17_45
noncomputable def n_17_41 : e_Y := u_ld f_okA f_l0 n_17_42
theorem t_17_41 : e_Sn 17 41 (e_un n_17_41) := u_ldAT f_l0_eq (s_aload (i := .aload_n 0) (len := 1) hq_17 (by decide +kernel) rfl (.inr ⟨0, rfl, rfl, rfl⟩) : e_Sn 17 41 (o_load e_okR 0 42)) t_17_42
noncomputable def n_17_40 : e_Y := u_ast 0 f_okI (u_old (o_ast 0 e_okI 41) n_17_41) n_17_41
theorem t_17_40 : e_Sn 17 40 (e_un n_17_40) := u_astT (fun _ => f_okI_eq) (s_iast hq_17 (by decide +kernel) rfl : e_Sn 17 40 (o_ast 0 e_okI 41)) t_17_41
noncomputable def n_17_39 : e_Y := u_bin a_iadd (u_old (o_iadd 40) n_17_40) n_17_40
theorem t_17_39 : e_Sn 17 39 (e_un n_17_39) := u_iaddT (s_iadd hq_17 (by decide +kernel) rfl : e_Sn 17 39 (o_iadd 40)) t_17_40
noncomputable def n_17_38 : e_Y := u_ld f_okI f_l2 n_17_39
theorem t_17_38 : e_Sn 17 38 (e_un n_17_38) := u_ldIT f_l2_eq (s_iload (i := .iload_n 2) (len := 1) hq_17 (by decide +kernel) rfl (.inr ⟨2, rfl, rfl, rfl⟩) : e_Sn 17 38 (o_load e_okI 2 39)) t_17_39
noncomputable def n_17_37 : e_Y := u_ld f_okI f_l1 n_17_38
theorem t_17_37 : e_Sn 17 37 (e_un n_17_37) := u_ldIT f_l1_eq (s_iload (i := .iload_n 1) (len := 1) hq_17 (by decide +kernel) rfl (.inr ⟨1, rfl, rfl, rfl⟩) : e_Sn 17 37 (o_load e_okI 1 38)) t_17_38
noncomputable def n_17_34 : e_Y := u_getf 2 13 (u_old (o_getf (e_f1 2 13) 37) n_17_37) n_17_37
theorem t_17_34 : e_Sn 17 34 (e_un n_17_34) := u_getfT (s_getf (C := er_2) (T := et_2) (N := 19) (ref := "Plateroomprinter$Engine") (index := 53) (ci := 2) (k := 13) hq_17 ho_17 ⟨rfl, by decide, ei_2, r_m_3_13, .inl rfl⟩ (by decide +kernel) rfl : e_Sn 17 34 (o_getf (e_f1 2 13) 37)) t_17_37
noncomputable def n_17_33 : e_Y := u_ld f_okA f_l0 n_17_34
theorem t_17_33 : e_Sn 17 33 (e_un n_17_33) := u_ldAT f_l0_eq (s_aload (i := .aload_n 0) (len := 1) hq_17 (by decide +kernel) rfl (.inr ⟨0, rfl, rfl, rfl⟩) : e_Sn 17 33 (o_load e_okR 0 34)) t_17_34
noncomputable def n_17_30 : e_Y := u_getf 2 6 (u_old (o_getf (e_f1 2 6) 33) n_17_33) n_17_33
theorem t_17_30 : e_Sn 17 30 (e_un n_17_30) := u_getfT (s_getf (C := er_2) (T := et_2) (N := 19) (ref := "Plateroomprinter$Engine") (index := 24) (ci := 2) (k := 6) hq_17 ho_17 ⟨rfl, by decide, ei_2, r_m_3_6, .inl rfl⟩ (by decide +kernel) rfl : e_Sn 17 30 (o_getf (e_f1 2 6) 33)) t_17_33
noncomputable def n_17_29 : e_Y := u_ld f_okA f_l0 n_17_30
theorem t_17_29 : e_Sn 17 29 (e_un n_17_29) := u_ldAT f_l0_eq (s_aload (i := .aload_n 0) (len := 1) hq_17 (by decide +kernel) rfl (.inr ⟨0, rfl, rfl, rfl⟩) : e_Sn 17 29 (o_load e_okR 0 30)) t_17_30
noncomputable def n_17_28 : e_Y := u_ast 0 f_okI (u_old (o_ast 0 e_okI 29) n_17_29) n_17_29
theorem t_17_28 : e_Sn 17 28 (e_un n_17_28) := u_astT (fun _ => f_okI_eq) (s_iast hq_17 (by decide +kernel) rfl : e_Sn 17 28 (o_ast 0 e_okI 29)) t_17_29
noncomputable def n_17_27 : e_Y := u_ld f_okI f_l1 n_17_28
theorem t_17_27 : e_Sn 17 27 (e_un n_17_27) := u_ldIT f_l1_eq (s_iload (i := .iload_n 1) (len := 1) hq_17 (by decide +kernel) rfl (.inr ⟨1, rfl, rfl, rfl⟩) : e_Sn 17 27 (o_load e_okI 1 28)) t_17_28
noncomputable def n_17_24 : e_Y := u_getf 2 13 (u_old (o_getf (e_f1 2 13) 27) n_17_27) n_17_27
theorem t_17_24 : e_Sn 17 24 (e_un n_17_24) := u_getfT (s_getf (C := er_2) (T := et_2) (N := 19) (ref := "Plateroomprinter$Engine") (index := 53) (ci := 2) (k := 13) hq_17 ho_17 ⟨rfl, by decide, ei_2, r_m_3_13, .inl rfl⟩ (by decide +kernel) rfl : e_Sn 17 24 (o_getf (e_f1 2 13) 27)) t_17_27
noncomputable def n_17_23 : e_Y := u_ld f_okA f_l0 n_17_24
theorem t_17_23 : e_Sn 17 23 (e_un n_17_23) := u_ldAT f_l0_eq (s_aload (i := .aload_n 0) (len := 1) hq_17 (by decide +kernel) rfl (.inr ⟨0, rfl, rfl, rfl⟩) : e_Sn 17 23 (o_load e_okR 0 24)) t_17_24
noncomputable def n_17_20 : e_Y := u_getf 2 5 (u_old (o_getf (e_f1 2 5) 23) n_17_23) n_17_23
theorem t_17_20 : e_Sn 17 20 (e_un n_17_20) := u_getfT (s_getf (C := er_2) (T := et_2) (N := 19) (ref := "Plateroomprinter$Engine") (index := 21) (ci := 2) (k := 5) hq_17 ho_17 ⟨rfl, by decide, ei_2, r_m_3_5, .inl rfl⟩ (by decide +kernel) rfl : e_Sn 17 20 (o_getf (e_f1 2 5) 23)) t_17_23
noncomputable def n_17_19 : e_Y := u_ld f_okA f_l0 n_17_20
theorem t_17_19 : e_Sn 17 19 (e_un n_17_19) := u_ldAT f_l0_eq (s_aload (i := .aload_n 0) (len := 1) hq_17 (by decide +kernel) rfl (.inr ⟨0, rfl, rfl, rfl⟩) : e_Sn 17 19 (o_load e_okR 0 20)) t_17_20
noncomputable def n_17_13 : e_Y := u_jmp y_ge (u_old2 (o_clt 19 16) 19 n_17_19 (u_at 16)) n_17_19 (u_at 16)
theorem t_17_13 : e_Sn 17 13 (e_un n_17_13) := u_cltT rfl (s_clt (off := (6)) hq_17 (by decide +kernel) rfl rfl : e_Sn 17 13 (o_clt 19 16)) t_17_19 u_atT
noncomputable def n_17_11 : e_Y := u_push (.inl 2147483660) n_17_13
theorem t_17_11 : e_Sn 17 11 (e_un n_17_11) := u_pushT (s_bipush (n := (12)) hq_17 (by decide +kernel) rfl ⟨by decide +kernel, by decide +kernel⟩ : e_Sn 17 11 (o_push (.inl 2147483660) 13)) t_17_13
noncomputable def n_17_8 : e_Y := u_getf 2 13 (u_old (o_getf (e_f1 2 13) 11) n_17_11) n_17_11
theorem t_17_8 : e_Sn 17 8 (e_un n_17_8) := u_getfT (s_getf (C := er_2) (T := et_2) (N := 19) (ref := "Plateroomprinter$Engine") (index := 53) (ci := 2) (k := 13) hq_17 ho_17 ⟨rfl, by decide, ei_2, r_m_3_13, .inl rfl⟩ (by decide +kernel) rfl : e_Sn 17 8 (o_getf (e_f1 2 13) 11)) t_17_11
noncomputable def n_17_7 : e_Y := u_ld f_okA f_l0 n_17_8
theorem t_17_7 : e_Sn 17 7 (e_un n_17_7) := u_ldAT f_l0_eq (s_aload (i := .aload_n 0) (len := 1) hq_17 (by decide +kernel) rfl (.inr ⟨0, rfl, rfl, rfl⟩) : e_Sn 17 7 (o_load e_okR 0 8)) t_17_8
noncomputable def n_17_4 : e_Y := u_if y_ge0 (u_old2 (o_iflt 16 7) 16 (u_at 16) n_17_7) (u_at 16) n_17_7
theorem t_17_4 : e_Sn 17 4 (e_un n_17_4) := u_ifltT rfl (s_iflt (off := (12)) hq_17 (by decide +kernel) rfl rfl : e_Sn 17 4 (o_iflt 16 7)) u_atT t_17_7
noncomputable def n_17_1 : e_Y := u_getf 2 13 (u_old (o_getf (e_f1 2 13) 4) n_17_4) n_17_4
theorem t_17_1 : e_Sn 17 1 (e_un n_17_1) := u_getfT (s_getf (C := er_2) (T := et_2) (N := 19) (ref := "Plateroomprinter$Engine") (index := 53) (ci := 2) (k := 13) hq_17 ho_17 ⟨rfl, by decide, ei_2, r_m_3_13, .inl rfl⟩ (by decide +kernel) rfl : e_Sn 17 1 (o_getf (e_f1 2 13) 4)) t_17_4
noncomputable def n_17_0 : e_Y := u_ld f_okA f_l0 n_17_1
theorem t_17_0 : e_Sn 17 0 (e_un n_17_0) := u_ldAT f_l0_eq (s_aload (i := .aload_n 0) (len := 1) hq_17 (by decide +kernel) rfl (.inr ⟨0, rfl, rfl, rfl⟩) : e_Sn 17 0 (o_load e_okR 0 1)) t_17_1
noncomputable def e_tb_17 : e_X := (e_lf 0 (e_un n_17_0))
theorem e_tk_17 : e_Tb 17 e_tb_17 := (e_lfT t_17_0)
theorem hq_14 : (e_ml[14]?).map (·.2.1) = some prog_3_method_2_code := Eq.trans (congrArg (Option.map (fun e => e.2.1)) hy_14) rfl
theorem ho_14 : (e_ml[14]?).map (·.1.cls) = some "Plateroomprinter$Engine" := Eq.trans (congrArg (Option.map (fun e => e.1.cls)) hy_14) rfl
theorem hr_14 : (e_ml[14]?).map (·.2.2.2) = some none := Eq.trans (congrArg (Option.map (fun e => e.2.2.2)) hy_14) rfl
noncomputable def n_14_34 : e_Y := u_retV
theorem t_14_34 : e_Sn 14 34 (e_un n_14_34) := u_retVT (s_vret hq_14 hr_14 (by decide +kernel) : e_Sn 14 34 (o_retv))
noncomputable def n_14_33 : e_Y := u_pop n_14_34
theorem t_14_33 : e_Sn 14 33 (e_un n_14_33) := u_popT (s_pop hq_14 (by decide +kernel) rfl : e_Sn 14 33 (o_pop 34)) t_14_34
noncomputable def n_14_30 : e_Y := u_callV 2 17 3 22 3 n_17_0 n_14_33
theorem t_14_30 : e_Sn 14 30 (e_un n_14_30) := u_callVT rfl (s_callV (ci := 2) (C := er_2) (T := et_2) (N := 19) (index := 71) hq_14 ho_14 hy_17 hp_17 hc_17 hi_17 hd_17 r_m_3_167 hs_17 (List.mem_of_getElem? (i := 0) (by decide +kernel)) rfl (by decide +kernel) rfl : e_Sn 14 30 (o_callV (e_s1 2 17 3) 3 33)) t_17_0 t_14_33
noncomputable def n_14_27 : e_Y := u_getf 1 3 (u_old (o_getf (e_f1 1 3) 30) n_14_30) n_14_30
theorem t_14_27 : e_Sn 14 27 (e_un n_14_27) := u_getfT (s_getf (C := er_1) (T := et_1) (N := 4) (ref := "Plateroomprinter$Code") (index := 68) (ci := 1) (k := 3) hq_14 ho_14 ⟨rfl, by decide, ei_1, (r_k1 (List.mem_of_getElem? (i := 68) (by decide +kernel))), .inl rfl⟩ (by decide +kernel) rfl : e_Sn 14 27 (o_getf (e_f1 1 3) 30)) t_14_30
noncomputable def n_14_24 : e_Y := u_getf 2 1 (u_old (o_getf (e_f1 2 1) 27) n_14_27) n_14_27
theorem t_14_24 : e_Sn 14 24 (e_un n_14_24) := u_getfT (s_getf (C := er_2) (T := et_2) (N := 19) (ref := "Plateroomprinter$Engine") (index := 49) (ci := 2) (k := 1) hq_14 ho_14 ⟨rfl, by decide, ei_2, r_m_3_0, .inl rfl⟩ (by decide +kernel) rfl : e_Sn 14 24 (o_getf (e_f1 2 1) 27)) t_14_27
noncomputable def n_14_23 : e_Y := u_ld f_okA f_l0 n_14_24
theorem t_14_23 : e_Sn 14 23 (e_un n_14_23) := u_ldAT f_l0_eq (s_aload (i := .aload_n 0) (len := 1) hq_14 (by decide +kernel) rfl (.inr ⟨0, rfl, rfl, rfl⟩) : e_Sn 14 23 (o_load e_okR 0 24)) t_14_24
noncomputable def n_14_20 : e_Y := u_getf 1 2 (u_old (o_getf (e_f1 1 2) 23) n_14_23) n_14_23
theorem t_14_20 : e_Sn 14 20 (e_un n_14_20) := u_getfT (s_getf (C := er_1) (T := et_1) (N := 4) (ref := "Plateroomprinter$Code") (index := 63) (ci := 1) (k := 2) hq_14 ho_14 ⟨rfl, by decide, ei_1, (r_k1 (List.mem_of_getElem? (i := 64) (by decide +kernel))), .inl rfl⟩ (by decide +kernel) rfl : e_Sn 14 20 (o_getf (e_f1 1 2) 23)) t_14_23
noncomputable def n_14_17 : e_Y := u_getf 2 1 (u_old (o_getf (e_f1 2 1) 20) n_14_20) n_14_20
theorem t_14_17 : e_Sn 14 17 (e_un n_14_17) := u_getfT (s_getf (C := er_2) (T := et_2) (N := 19) (ref := "Plateroomprinter$Engine") (index := 49) (ci := 2) (k := 1) hq_14 ho_14 ⟨rfl, by decide, ei_2, r_m_3_0, .inl rfl⟩ (by decide +kernel) rfl : e_Sn 14 17 (o_getf (e_f1 2 1) 20)) t_14_20
noncomputable def n_14_16 : e_Y := u_ld f_okA f_l0 n_14_17
theorem t_14_16 : e_Sn 14 16 (e_un n_14_16) := u_ldAT f_l0_eq (s_aload (i := .aload_n 0) (len := 1) hq_14 (by decide +kernel) rfl (.inr ⟨0, rfl, rfl, rfl⟩) : e_Sn 14 16 (o_load e_okR 0 17)) t_14_17
noncomputable def n_14_15 : e_Y := u_ld f_okA f_l0 n_14_16
theorem t_14_15 : e_Sn 14 15 (e_un n_14_15) := u_ldAT f_l0_eq (s_aload (i := .aload_n 0) (len := 1) hq_14 (by decide +kernel) rfl (.inr ⟨0, rfl, rfl, rfl⟩) : e_Sn 14 15 (o_load e_okR 0 16)) t_14_16
noncomputable def n_14_12 : e_Y := u_putf 2 15 f_okI (u_old (o_putf (e_f1 2 15) e_okI 15) n_14_15) n_14_15
theorem t_14_12 : e_Sn 14 12 (e_un n_14_12) := u_putfT (fun _ => f_okI_eq) (s_putf (ty0 := ey_2) (ok := e_okI) (C := er_2) (T := et_2) (N := 19) (ref := "Plateroomprinter$Engine") (index := 60) (ci := 2) (k := 15) hq_14 ho_14 ⟨rfl, by decide, ei_2, r_m_3_15, .inl rfl⟩ eo_2 en_2 e_oksI (.inl rfl) (by decide +kernel) rfl : e_Sn 14 12 (o_putf (e_f1 2 15) e_okI 15)) t_14_15
noncomputable def n_14_11 : e_Y := u_push (.inl 2147483648) n_14_12
theorem t_14_11 : e_Sn 14 11 (e_un n_14_11) := u_pushT (s_iconst (n := (0)) hq_14 (by decide +kernel) rfl ⟨by decide +kernel, by decide +kernel⟩ : e_Sn 14 11 (o_push (.inl 2147483648) 12)) t_14_12
noncomputable def n_14_10 : e_Y := u_ld f_okA f_l0 n_14_11
theorem t_14_10 : e_Sn 14 10 (e_un n_14_10) := u_ldAT f_l0_eq (s_aload (i := .aload_n 0) (len := 1) hq_14 (by decide +kernel) rfl (.inr ⟨0, rfl, rfl, rfl⟩) : e_Sn 14 10 (o_load e_okR 0 11)) t_14_11
noncomputable def n_14_7 : e_Y := u_putf 2 14 f_okI (u_old (o_putf (e_f1 2 14) e_okI 10) n_14_10) n_14_10
theorem t_14_7 : e_Sn 14 7 (e_un n_14_7) := u_putfT (fun _ => f_okI_eq) (s_putf (ty0 := ey_2) (ok := e_okI) (C := er_2) (T := et_2) (N := 19) (ref := "Plateroomprinter$Engine") (index := 57) (ci := 2) (k := 14) hq_14 ho_14 ⟨rfl, by decide, ei_2, r_m_3_14, .inl rfl⟩ eo_2 en_2 e_oksI (.inl rfl) (by decide +kernel) rfl : e_Sn 14 7 (o_putf (e_f1 2 14) e_okI 10)) t_14_10
noncomputable def n_14_6 : e_Y := u_push (.inl 2147483648) n_14_7
theorem t_14_6 : e_Sn 14 6 (e_un n_14_6) := u_pushT (s_iconst (n := (0)) hq_14 (by decide +kernel) rfl ⟨by decide +kernel, by decide +kernel⟩ : e_Sn 14 6 (o_push (.inl 2147483648) 7)) t_14_7
noncomputable def n_14_5 : e_Y := u_ld f_okA f_l0 n_14_6
theorem t_14_5 : e_Sn 14 5 (e_un n_14_5) := u_ldAT f_l0_eq (s_aload (i := .aload_n 0) (len := 1) hq_14 (by decide +kernel) rfl (.inr ⟨0, rfl, rfl, rfl⟩) : e_Sn 14 5 (o_load e_okR 0 6)) t_14_6
noncomputable def n_14_2 : e_Y := u_putf 2 13 f_okI (u_old (o_putf (e_f1 2 13) e_okI 5) n_14_5) n_14_5
theorem t_14_2 : e_Sn 14 2 (e_un n_14_2) := u_putfT (fun _ => f_okI_eq) (s_putf (ty0 := ey_2) (ok := e_okI) (C := er_2) (T := et_2) (N := 19) (ref := "Plateroomprinter$Engine") (index := 53) (ci := 2) (k := 13) hq_14 ho_14 ⟨rfl, by decide, ei_2, r_m_3_13, .inl rfl⟩ eo_2 en_2 e_oksI (.inl rfl) (by decide +kernel) rfl : e_Sn 14 2 (o_putf (e_f1 2 13) e_okI 5)) t_14_5
noncomputable def n_14_1 : e_Y := u_push (.inl 2147483648) n_14_2
theorem t_14_1 : e_Sn 14 1 (e_un n_14_1) := u_pushT (s_iconst (n := (0)) hq_14 (by decide +kernel) rfl ⟨by decide +kernel, by decide +kernel⟩ : e_Sn 14 1 (o_push (.inl 2147483648) 2)) t_14_2
noncomputable def n_14_0 : e_Y := u_ld f_okA f_l0 n_14_1
theorem t_14_0 : e_Sn 14 0 (e_un n_14_0) := u_ldAT f_l0_eq (s_aload (i := .aload_n 0) (len := 1) hq_14 (by decide +kernel) rfl (.inr ⟨0, rfl, rfl, rfl⟩) : e_Sn 14 0 (o_load e_okR 0 1)) t_14_1
noncomputable def e_tb_14 : e_X := (e_lf 0 (e_un n_14_0))
theorem e_tk_14 : e_Tb 14 e_tb_14 := (e_lfT t_14_0)
theorem hq_18 : (e_ml[18]?).map (·.2.1) = some prog_3_method_6_code := Eq.trans (congrArg (Option.map (fun e => e.2.1)) hy_18) rfl
theorem ho_18 : (e_ml[18]?).map (·.1.cls) = some "Plateroomprinter$Engine" := Eq.trans (congrArg (Option.map (fun e => e.1.cls)) hy_18) rfl
theorem hr_18 : (e_ml[18]?).map (·.2.2.2) = some (some .boolean) := Eq.trans (congrArg (Option.map (fun e => e.2.2.2)) hy_18) rfl
noncomputable def n_18_77 : e_Y := u_tab (o_ret e_okZ)
theorem t_18_77 : e_Sn 18 77 (e_un n_18_77) := u_tabT (s_zret hq_18 hr_18 (by decide +kernel) : e_Sn 18 77 (o_ret e_okZ))
noncomputable def n_18_59 : e_Y := n_18_77
theorem t_18_59 : e_Sn 18 59 (e_un n_18_59) := u_gotoT (s_goto (off := (18)) hq_18 (by decide +kernel) rfl : e_Sn 18 59 (o_goto 77)) t_18_77
noncomputable def n_18_58 : e_Y := u_push (.inl 2147483648) n_18_59
theorem t_18_58 : e_Sn 18 58 (e_un n_18_58) := u_pushT (s_iconst (n := (0)) hq_18 (by decide +kernel) rfl ⟨by decide +kernel, by decide +kernel⟩ : e_Sn 18 58 (o_push (.inl 2147483648) 59)) t_18_59
noncomputable def n_18_55 : e_Y := n_18_77
theorem t_18_55 : e_Sn 18 55 (e_un n_18_55) := u_gotoT (s_goto (off := (22)) hq_18 (by decide +kernel) rfl : e_Sn 18 55 (o_goto 77)) t_18_77
noncomputable def n_18_54 : e_Y := u_push (.inl 2147483649) n_18_55
theorem t_18_54 : e_Sn 18 54 (e_un n_18_54) := u_pushT (s_iconst (n := (1)) hq_18 (by decide +kernel) rfl ⟨by decide +kernel, by decide +kernel⟩ : e_Sn 18 54 (o_push (.inl 2147483649) 55)) t_18_55
noncomputable def n_18_51 : e_Y := u_jmp y_le (u_old2 (o_cgt 58 54) 58 n_18_58 n_18_54) n_18_58 n_18_54
theorem t_18_51 : e_Sn 18 51 (e_un n_18_51) := u_cgtT rfl (s_cgt (off := (7)) hq_18 (by decide +kernel) rfl rfl : e_Sn 18 51 (o_cgt 58 54)) t_18_58 t_18_54
noncomputable def n_18_50 : e_Y := u_ald 0 (u_old (o_ald e_fcs 51) n_18_51) n_18_51
theorem t_18_50 : e_Sn 18 50 (e_un n_18_50) := u_aldT (s_iald hq_18 (by decide +kernel) rfl : e_Sn 18 50 (o_ald e_fcs 51)) t_18_51
noncomputable def n_18_49 : e_Y := u_ld f_okI f_l1 n_18_50
theorem t_18_49 : e_Sn 18 49 (e_un n_18_49) := u_ldIT f_l1_eq (s_iload (i := .iload_n 1) (len := 1) hq_18 (by decide +kernel) rfl (.inr ⟨1, rfl, rfl, rfl⟩) : e_Sn 18 49 (o_load e_okI 1 50)) t_18_50
noncomputable def n_18_46 : e_Y := u_getf 2 12 (u_old (o_getf (e_f1 2 12) 49) n_18_49) n_18_49
theorem t_18_46 : e_Sn 18 46 (e_un n_18_46) := u_getfT (s_getf (C := er_2) (T := et_2) (N := 19) (ref := "Plateroomprinter$Engine") (index := 42) (ci := 2) (k := 12) hq_18 ho_18 ⟨rfl, by decide, ei_2, r_m_3_12, .inl rfl⟩ (by decide +kernel) rfl : e_Sn 18 46 (o_getf (e_f1 2 12) 49)) t_18_49
noncomputable def n_18_45 : e_Y := u_ld f_okA f_l0 n_18_46
theorem t_18_45 : e_Sn 18 45 (e_un n_18_45) := u_ldAT f_l0_eq (s_aload (i := .aload_n 0) (len := 1) hq_18 (by decide +kernel) rfl (.inr ⟨0, rfl, rfl, rfl⟩) : e_Sn 18 45 (o_load e_okR 0 46)) t_18_46
noncomputable def n_18_44 : e_Y := u_ld f_okI f_l2 n_18_45
theorem t_18_44 : e_Sn 18 44 (e_un n_18_44) := u_ldIT f_l2_eq (s_iload (i := .iload_n 2) (len := 1) hq_18 (by decide +kernel) rfl (.inr ⟨2, rfl, rfl, rfl⟩) : e_Sn 18 44 (o_load e_okI 2 45)) t_18_45
noncomputable def n_18_41 : e_Y := u_if y_le0 (u_old2 (o_ifgt 44 62) 44 n_18_44 (u_at 62)) n_18_44 (u_at 62)
theorem t_18_41 : e_Sn 18 41 (e_un n_18_41) := u_ifgtT rfl (s_ifle (off := (21)) hq_18 (by decide +kernel) rfl rfl : e_Sn 18 41 (o_ifgt 44 62)) t_18_44 u_atT
noncomputable def n_18_40 : e_Y := u_ald 0 (u_old (o_ald e_fcs 41) n_18_41) n_18_41
theorem t_18_40 : e_Sn 18 40 (e_un n_18_40) := u_aldT (s_iald hq_18 (by decide +kernel) rfl : e_Sn 18 40 (o_ald e_fcs 41)) t_18_41
noncomputable def n_18_39 : e_Y := u_ld f_okI f_l1 n_18_40
theorem t_18_39 : e_Sn 18 39 (e_un n_18_39) := u_ldIT f_l1_eq (s_iload (i := .iload_n 1) (len := 1) hq_18 (by decide +kernel) rfl (.inr ⟨1, rfl, rfl, rfl⟩) : e_Sn 18 39 (o_load e_okI 1 40)) t_18_40
noncomputable def n_18_36 : e_Y := u_getf 2 11 (u_old (o_getf (e_f1 2 11) 39) n_18_39) n_18_39
theorem t_18_36 : e_Sn 18 36 (e_un n_18_36) := u_getfT (s_getf (C := er_2) (T := et_2) (N := 19) (ref := "Plateroomprinter$Engine") (index := 39) (ci := 2) (k := 11) hq_18 ho_18 ⟨rfl, by decide, ei_2, r_m_3_11, .inl rfl⟩ (by decide +kernel) rfl : e_Sn 18 36 (o_getf (e_f1 2 11) 39)) t_18_39
noncomputable def n_18_35 : e_Y := u_ld f_okA f_l0 n_18_36
theorem t_18_35 : e_Sn 18 35 (e_un n_18_35) := u_ldAT f_l0_eq (s_aload (i := .aload_n 0) (len := 1) hq_18 (by decide +kernel) rfl (.inr ⟨0, rfl, rfl, rfl⟩) : e_Sn 18 35 (o_load e_okR 0 36)) t_18_36
noncomputable def n_18_34 : e_Y := u_st f_okI f_s2 n_18_35
theorem t_18_34 : e_Sn 18 34 (e_un n_18_34) := u_stIT (fun _ _ _ => f_s2_eq) (s_istore (i := .istore_n 2) (len := 1) hq_18 (by decide +kernel) rfl (.inr ⟨2, rfl, rfl, rfl⟩) : e_Sn 18 34 (o_store e_okI 2 35)) t_18_35
noncomputable def n_18_33 : e_Y := u_bin a_iadd (u_old (o_iadd 34) n_18_34) n_18_34
theorem t_18_33 : e_Sn 18 33 (e_un n_18_33) := u_iaddT (s_iadd hq_18 (by decide +kernel) rfl : e_Sn 18 33 (o_iadd 34)) t_18_34
noncomputable def n_18_32 : e_Y := u_ald 0 (u_old (o_ald e_fcs 33) n_18_33) n_18_33
theorem t_18_32 : e_Sn 18 32 (e_un n_18_32) := u_aldT (s_iald hq_18 (by decide +kernel) rfl : e_Sn 18 32 (o_ald e_fcs 33)) t_18_33
noncomputable def n_18_31 : e_Y := u_ld f_okI f_l1 n_18_32
theorem t_18_31 : e_Sn 18 31 (e_un n_18_31) := u_ldIT f_l1_eq (s_iload (i := .iload_n 1) (len := 1) hq_18 (by decide +kernel) rfl (.inr ⟨1, rfl, rfl, rfl⟩) : e_Sn 18 31 (o_load e_okI 1 32)) t_18_32
noncomputable def n_18_28 : e_Y := u_getf 2 11 (u_old (o_getf (e_f1 2 11) 31) n_18_31) n_18_31
theorem t_18_28 : e_Sn 18 28 (e_un n_18_28) := u_getfT (s_getf (C := er_2) (T := et_2) (N := 19) (ref := "Plateroomprinter$Engine") (index := 39) (ci := 2) (k := 11) hq_18 ho_18 ⟨rfl, by decide, ei_2, r_m_3_11, .inl rfl⟩ (by decide +kernel) rfl : e_Sn 18 28 (o_getf (e_f1 2 11) 31)) t_18_31
noncomputable def n_18_27 : e_Y := u_ld f_okA f_l0 n_18_28
theorem t_18_27 : e_Sn 18 27 (e_un n_18_27) := u_ldAT f_l0_eq (s_aload (i := .aload_n 0) (len := 1) hq_18 (by decide +kernel) rfl (.inr ⟨0, rfl, rfl, rfl⟩) : e_Sn 18 27 (o_load e_okR 0 28)) t_18_28
noncomputable def n_18_26 : e_Y := u_ald 0 (u_old (o_ald e_fcs 27) n_18_27) n_18_27
theorem t_18_26 : e_Sn 18 26 (e_un n_18_26) := u_aldT (s_iald hq_18 (by decide +kernel) rfl : e_Sn 18 26 (o_ald e_fcs 27)) t_18_27
noncomputable def n_18_25 : e_Y := u_ld f_okI f_l1 n_18_26
theorem t_18_25 : e_Sn 18 25 (e_un n_18_25) := u_ldIT f_l1_eq (s_iload (i := .iload_n 1) (len := 1) hq_18 (by decide +kernel) rfl (.inr ⟨1, rfl, rfl, rfl⟩) : e_Sn 18 25 (o_load e_okI 1 26)) t_18_26
noncomputable def n_18_22 : e_Y := u_getf 2 10 (u_old (o_getf (e_f1 2 10) 25) n_18_25) n_18_25
theorem t_18_22 : e_Sn 18 22 (e_un n_18_22) := u_getfT (s_getf (C := er_2) (T := et_2) (N := 19) (ref := "Plateroomprinter$Engine") (index := 36) (ci := 2) (k := 10) hq_18 ho_18 ⟨rfl, by decide, ei_2, r_m_3_10, .inl rfl⟩ (by decide +kernel) rfl : e_Sn 18 22 (o_getf (e_f1 2 10) 25)) t_18_25
noncomputable def n_18_21 : e_Y := u_ld f_okA f_l0 n_18_22
theorem t_18_21 : e_Sn 18 21 (e_un n_18_21) := u_ldAT f_l0_eq (s_aload (i := .aload_n 0) (len := 1) hq_18 (by decide +kernel) rfl (.inr ⟨0, rfl, rfl, rfl⟩) : e_Sn 18 21 (o_load e_okR 0 22)) t_18_22
noncomputable def n_18_20 : e_Y := u_tab (o_ret e_okZ)
theorem t_18_20 : e_Sn 18 20 (e_un n_18_20) := u_tabT (s_zret hq_18 hr_18 (by decide +kernel) : e_Sn 18 20 (o_ret e_okZ))
noncomputable def n_18_19 : e_Y := u_push (.inl 2147483648) n_18_20
theorem t_18_19 : e_Sn 18 19 (e_un n_18_19) := u_pushT (s_iconst (n := (0)) hq_18 (by decide +kernel) rfl ⟨by decide +kernel, by decide +kernel⟩ : e_Sn 18 19 (o_push (.inl 2147483648) 20)) t_18_20
noncomputable def n_18_16 : e_Y := u_if y_ne0 (u_old2 (o_ifeq 19 21) 19 n_18_19 n_18_21) n_18_19 n_18_21
theorem t_18_16 : e_Sn 18 16 (e_un n_18_16) := u_ifeqT rfl (s_ifne (off := (5)) hq_18 (by decide +kernel) rfl rfl : e_Sn 18 16 (o_ifeq 19 21)) t_18_19 t_18_21
noncomputable def n_18_15 : e_Y := u_ald 0 (u_old (o_ald e_fcs 16) n_18_16) n_18_16
theorem t_18_15 : e_Sn 18 15 (e_un n_18_15) := u_aldT (s_iald hq_18 (by decide +kernel) rfl : e_Sn 18 15 (o_ald e_fcs 16)) t_18_16
noncomputable def n_18_14 : e_Y := u_ld f_okI f_l1 n_18_15
theorem t_18_14 : e_Sn 18 14 (e_un n_18_14) := u_ldIT f_l1_eq (s_iload (i := .iload_n 1) (len := 1) hq_18 (by decide +kernel) rfl (.inr ⟨1, rfl, rfl, rfl⟩) : e_Sn 18 14 (o_load e_okI 1 15)) t_18_15
noncomputable def n_18_11 : e_Y := u_getf 2 9 (u_old (o_getf (e_f1 2 9) 14) n_18_14) n_18_14
theorem t_18_11 : e_Sn 18 11 (e_un n_18_11) := u_getfT (s_getf (C := er_2) (T := et_2) (N := 19) (ref := "Plateroomprinter$Engine") (index := 33) (ci := 2) (k := 9) hq_18 ho_18 ⟨rfl, by decide, ei_2, r_m_3_9, .inl rfl⟩ (by decide +kernel) rfl : e_Sn 18 11 (o_getf (e_f1 2 9) 14)) t_18_14
noncomputable def n_18_10 : e_Y := u_ld f_okA f_l0 n_18_11
theorem t_18_10 : e_Sn 18 10 (e_un n_18_10) := u_ldAT f_l0_eq (s_aload (i := .aload_n 0) (len := 1) hq_18 (by decide +kernel) rfl (.inr ⟨0, rfl, rfl, rfl⟩) : e_Sn 18 10 (o_load e_okR 0 11)) t_18_11
noncomputable def n_18_7 : e_Y := u_jmp y_ge (u_old2 (o_clt 10 19) 10 n_18_10 n_18_19) n_18_10 n_18_19
theorem t_18_7 : e_Sn 18 7 (e_un n_18_7) := u_cltT rfl (s_cge (off := (12)) hq_18 (by decide +kernel) rfl rfl : e_Sn 18 7 (o_clt 10 19)) t_18_10 t_18_19
noncomputable def n_18_5 : e_Y := u_push (.inl 2147483660) n_18_7
theorem t_18_5 : e_Sn 18 5 (e_un n_18_5) := u_pushT (s_bipush (n := (12)) hq_18 (by decide +kernel) rfl ⟨by decide +kernel, by decide +kernel⟩ : e_Sn 18 5 (o_push (.inl 2147483660) 7)) t_18_7
noncomputable def n_18_4 : e_Y := u_ld f_okI f_l1 n_18_5
theorem t_18_4 : e_Sn 18 4 (e_un n_18_4) := u_ldIT f_l1_eq (s_iload (i := .iload_n 1) (len := 1) hq_18 (by decide +kernel) rfl (.inr ⟨1, rfl, rfl, rfl⟩) : e_Sn 18 4 (o_load e_okI 1 5)) t_18_5
noncomputable def n_18_1 : e_Y := u_if y_ge0 (u_old2 (o_iflt 19 4) 19 n_18_19 n_18_4) n_18_19 n_18_4
theorem t_18_1 : e_Sn 18 1 (e_un n_18_1) := u_ifltT rfl (s_iflt (off := (18)) hq_18 (by decide +kernel) rfl rfl : e_Sn 18 1 (o_iflt 19 4)) t_18_19 t_18_4
noncomputable def n_18_0 : e_Y := u_ld f_okI f_l1 n_18_1
theorem t_18_0 : e_Sn 18 0 (e_un n_18_0) := u_ldIT f_l1_eq (s_iload (i := .iload_n 1) (len := 1) hq_18 (by decide +kernel) rfl (.inr ⟨1, rfl, rfl, rfl⟩) : e_Sn 18 0 (o_load e_okI 1 1)) t_18_1
noncomputable def e_tb_18 : e_X := (e_lf 0 (e_un n_18_0))
theorem e_tk_18 : e_Tb 18 e_tb_18 := (e_lfT t_18_0)
theorem hq_22 : (e_ml[22]?).map (·.2.1) = some prog_3_method_5_code := Eq.trans (congrArg (Option.map (fun e => e.2.1)) hy_22) rfl
theorem ho_22 : (e_ml[22]?).map (·.1.cls) = some "Plateroomprinter$Engine" := Eq.trans (congrArg (Option.map (fun e => e.1.cls)) hy_22) rfl
theorem hr_22 : (e_ml[22]?).map (·.2.2.2) = some none := Eq.trans (congrArg (Option.map (fun e => e.2.2.2)) hy_22) rfl
noncomputable def n_22_44 : e_Y := u_retV
theorem t_22_44 : e_Sn 22 44 (e_un n_22_44) := u_retVT (s_vret hq_22 hr_22 (by decide +kernel) : e_Sn 22 44 (o_retv))
noncomputable def n_22_41 : e_Y := u_putf 2 18 f_okI (u_old (o_putf (e_f1 2 18) e_okI 44) n_22_44) n_22_44
theorem t_22_41 : e_Sn 22 41 (e_un n_22_41) := u_putfT (fun _ => f_okI_eq) (s_putf (ty0 := ey_2) (ok := e_okI) (C := er_2) (T := et_2) (N := 19) (ref := "Plateroomprinter$Engine") (index := 106) (ci := 2) (k := 18) hq_22 ho_22 ⟨rfl, by decide, ei_2, (r_k3 (List.mem_of_getElem? (i := 20) (by decide +kernel))), .inl rfl⟩ eo_2 en_2 e_oksI (.inl rfl) (by decide +kernel) rfl : e_Sn 22 41 (o_putf (e_f1 2 18) e_okI 44)) t_22_44
noncomputable def n_22_40 : e_Y := u_bin a_isub (u_old (o_isub 41) n_22_41) n_22_41
theorem t_22_40 : e_Sn 22 40 (e_un n_22_40) := u_isubT (s_isub hq_22 (by decide +kernel) rfl : e_Sn 22 40 (o_isub 41)) t_22_41
noncomputable def n_22_39 : e_Y := u_ald 0 (u_old (o_ald e_fcs 40) n_22_40) n_22_40
theorem t_22_39 : e_Sn 22 39 (e_un n_22_39) := u_aldT (s_iald hq_22 (by decide +kernel) rfl : e_Sn 22 39 (o_ald e_fcs 40)) t_22_40
noncomputable def n_22_38 : e_Y := u_ld f_okI f_l1 n_22_39
theorem t_22_38 : e_Sn 22 38 (e_un n_22_38) := u_ldIT f_l1_eq (s_iload (i := .iload_n 1) (len := 1) hq_22 (by decide +kernel) rfl (.inr ⟨1, rfl, rfl, rfl⟩) : e_Sn 22 38 (o_load e_okI 1 39)) t_22_39
noncomputable def n_22_35 : e_Y := u_getf 2 5 (u_old (o_getf (e_f1 2 5) 38) n_22_38) n_22_38
theorem t_22_35 : e_Sn 22 35 (e_un n_22_35) := u_getfT (s_getf (C := er_2) (T := et_2) (N := 19) (ref := "Plateroomprinter$Engine") (index := 21) (ci := 2) (k := 5) hq_22 ho_22 ⟨rfl, by decide, ei_2, r_m_3_5, .inl rfl⟩ (by decide +kernel) rfl : e_Sn 22 35 (o_getf (e_f1 2 5) 38)) t_22_38
noncomputable def n_22_34 : e_Y := u_ld f_okA f_l0 n_22_35
theorem t_22_34 : e_Sn 22 34 (e_un n_22_34) := u_ldAT f_l0_eq (s_aload (i := .aload_n 0) (len := 1) hq_22 (by decide +kernel) rfl (.inr ⟨0, rfl, rfl, rfl⟩) : e_Sn 22 34 (o_load e_okR 0 35)) t_22_35
noncomputable def n_22_33 : e_Y := u_ald 0 (u_old (o_ald e_fcs 34) n_22_34) n_22_34
theorem t_22_33 : e_Sn 22 33 (e_un n_22_33) := u_aldT (s_iald hq_22 (by decide +kernel) rfl : e_Sn 22 33 (o_ald e_fcs 34)) t_22_34
noncomputable def n_22_32 : e_Y := u_ld f_okI f_l1 n_22_33
theorem t_22_32 : e_Sn 22 32 (e_un n_22_32) := u_ldIT f_l1_eq (s_iload (i := .iload_n 1) (len := 1) hq_22 (by decide +kernel) rfl (.inr ⟨1, rfl, rfl, rfl⟩) : e_Sn 22 32 (o_load e_okI 1 33)) t_22_33
noncomputable def n_22_29 : e_Y := u_getf 2 8 (u_old (o_getf (e_f1 2 8) 32) n_22_32) n_22_32
theorem t_22_29 : e_Sn 22 29 (e_un n_22_29) := u_getfT (s_getf (C := er_2) (T := et_2) (N := 19) (ref := "Plateroomprinter$Engine") (index := 30) (ci := 2) (k := 8) hq_22 ho_22 ⟨rfl, by decide, ei_2, r_m_3_8, .inl rfl⟩ (by decide +kernel) rfl : e_Sn 22 29 (o_getf (e_f1 2 8) 32)) t_22_32
noncomputable def n_22_28 : e_Y := u_ld f_okA f_l0 n_22_29
theorem t_22_28 : e_Sn 22 28 (e_un n_22_28) := u_ldAT f_l0_eq (s_aload (i := .aload_n 0) (len := 1) hq_22 (by decide +kernel) rfl (.inr ⟨0, rfl, rfl, rfl⟩) : e_Sn 22 28 (o_load e_okR 0 29)) t_22_29
noncomputable def n_22_27 : e_Y := u_ld f_okA f_l0 n_22_28
theorem t_22_27 : e_Sn 22 27 (e_un n_22_27) := u_ldAT f_l0_eq (s_aload (i := .aload_n 0) (len := 1) hq_22 (by decide +kernel) rfl (.inr ⟨0, rfl, rfl, rfl⟩) : e_Sn 22 27 (o_load e_okR 0 28)) t_22_28
noncomputable def n_22_24 : e_Y := u_putf 2 17 f_okI (u_old (o_putf (e_f1 2 17) e_okI 27) n_22_27) n_22_27
theorem t_22_24 : e_Sn 22 24 (e_un n_22_24) := u_putfT (fun _ => f_okI_eq) (s_putf (ty0 := ey_2) (ok := e_okI) (C := er_2) (T := et_2) (N := 19) (ref := "Plateroomprinter$Engine") (index := 103) (ci := 2) (k := 17) hq_22 ho_22 ⟨rfl, by decide, ei_2, (r_k3 (List.mem_of_getElem? (i := 18) (by decide +kernel))), .inl rfl⟩ eo_2 en_2 e_oksI (.inl rfl) (by decide +kernel) rfl : e_Sn 22 24 (o_putf (e_f1 2 17) e_okI 27)) t_22_27
noncomputable def n_22_23 : e_Y := u_bin a_isub (u_old (o_isub 24) n_22_24) n_22_24
theorem t_22_23 : e_Sn 22 23 (e_un n_22_23) := u_isubT (s_isub hq_22 (by decide +kernel) rfl : e_Sn 22 23 (o_isub 24)) t_22_24
noncomputable def n_22_22 : e_Y := u_ald 0 (u_old (o_ald e_fcs 23) n_22_23) n_22_23
theorem t_22_22 : e_Sn 22 22 (e_un n_22_22) := u_aldT (s_iald hq_22 (by decide +kernel) rfl : e_Sn 22 22 (o_ald e_fcs 23)) t_22_23
noncomputable def n_22_21 : e_Y := u_push (.inl 2147483648) n_22_22
theorem t_22_21 : e_Sn 22 21 (e_un n_22_21) := u_pushT (s_iconst (n := (0)) hq_22 (by decide +kernel) rfl ⟨by decide +kernel, by decide +kernel⟩ : e_Sn 22 21 (o_push (.inl 2147483648) 22)) t_22_22
noncomputable def n_22_18 : e_Y := u_getf 2 5 (u_old (o_getf (e_f1 2 5) 21) n_22_21) n_22_21
theorem t_22_18 : e_Sn 22 18 (e_un n_22_18) := u_getfT (s_getf (C := er_2) (T := et_2) (N := 19) (ref := "Plateroomprinter$Engine") (index := 21) (ci := 2) (k := 5) hq_22 ho_22 ⟨rfl, by decide, ei_2, r_m_3_5, .inl rfl⟩ (by decide +kernel) rfl : e_Sn 22 18 (o_getf (e_f1 2 5) 21)) t_22_21
noncomputable def n_22_17 : e_Y := u_ld f_okA f_l0 n_22_18
theorem t_22_17 : e_Sn 22 17 (e_un n_22_17) := u_ldAT f_l0_eq (s_aload (i := .aload_n 0) (len := 1) hq_22 (by decide +kernel) rfl (.inr ⟨0, rfl, rfl, rfl⟩) : e_Sn 22 17 (o_load e_okR 0 18)) t_22_18
noncomputable def n_22_16 : e_Y := u_ald 0 (u_old (o_ald e_fcs 17) n_22_17) n_22_17
theorem t_22_16 : e_Sn 22 16 (e_un n_22_16) := u_aldT (s_iald hq_22 (by decide +kernel) rfl : e_Sn 22 16 (o_ald e_fcs 17)) t_22_17
noncomputable def n_22_15 : e_Y := u_push (.inl 2147483648) n_22_16
theorem t_22_15 : e_Sn 22 15 (e_un n_22_15) := u_pushT (s_iconst (n := (0)) hq_22 (by decide +kernel) rfl ⟨by decide +kernel, by decide +kernel⟩ : e_Sn 22 15 (o_push (.inl 2147483648) 16)) t_22_16
noncomputable def n_22_12 : e_Y := u_getf 2 8 (u_old (o_getf (e_f1 2 8) 15) n_22_15) n_22_15
theorem t_22_12 : e_Sn 22 12 (e_un n_22_12) := u_getfT (s_getf (C := er_2) (T := et_2) (N := 19) (ref := "Plateroomprinter$Engine") (index := 30) (ci := 2) (k := 8) hq_22 ho_22 ⟨rfl, by decide, ei_2, r_m_3_8, .inl rfl⟩ (by decide +kernel) rfl : e_Sn 22 12 (o_getf (e_f1 2 8) 15)) t_22_15
noncomputable def n_22_11 : e_Y := u_ld f_okA f_l0 n_22_12
theorem t_22_11 : e_Sn 22 11 (e_un n_22_11) := u_ldAT f_l0_eq (s_aload (i := .aload_n 0) (len := 1) hq_22 (by decide +kernel) rfl (.inr ⟨0, rfl, rfl, rfl⟩) : e_Sn 22 11 (o_load e_okR 0 12)) t_22_12
noncomputable def n_22_10 : e_Y := u_ld f_okA f_l0 n_22_11
theorem t_22_10 : e_Sn 22 10 (e_un n_22_10) := u_ldAT f_l0_eq (s_aload (i := .aload_n 0) (len := 1) hq_22 (by decide +kernel) rfl (.inr ⟨0, rfl, rfl, rfl⟩) : e_Sn 22 10 (o_load e_okR 0 11)) t_22_11
noncomputable def n_22_7 : e_Y := u_jmp y_ge (u_old2 (o_clt 10 44) 10 n_22_10 n_22_44) n_22_10 n_22_44
theorem t_22_7 : e_Sn 22 7 (e_un n_22_7) := u_cltT rfl (s_cge (off := (37)) hq_22 (by decide +kernel) rfl rfl : e_Sn 22 7 (o_clt 10 44)) t_22_10 t_22_44
noncomputable def n_22_5 : e_Y := u_push (.inl 2147483660) n_22_7
theorem t_22_5 : e_Sn 22 5 (e_un n_22_5) := u_pushT (s_bipush (n := (12)) hq_22 (by decide +kernel) rfl ⟨by decide +kernel, by decide +kernel⟩ : e_Sn 22 5 (o_push (.inl 2147483660) 7)) t_22_7
noncomputable def n_22_4 : e_Y := u_ld f_okI f_l1 n_22_5
theorem t_22_4 : e_Sn 22 4 (e_un n_22_4) := u_ldIT f_l1_eq (s_iload (i := .iload_n 1) (len := 1) hq_22 (by decide +kernel) rfl (.inr ⟨1, rfl, rfl, rfl⟩) : e_Sn 22 4 (o_load e_okI 1 5)) t_22_5
noncomputable def n_22_1 : e_Y := u_if y_ge0 (u_old2 (o_iflt 44 4) 44 n_22_44 n_22_4) n_22_44 n_22_4
theorem t_22_1 : e_Sn 22 1 (e_un n_22_1) := u_ifltT rfl (s_iflt (off := (43)) hq_22 (by decide +kernel) rfl rfl : e_Sn 22 1 (o_iflt 44 4)) t_22_44 t_22_4
noncomputable def n_22_0 : e_Y := u_ld f_okI f_l1 n_22_1
theorem t_22_0 : e_Sn 22 0 (e_un n_22_0) := u_ldIT f_l1_eq (s_iload (i := .iload_n 1) (len := 1) hq_22 (by decide +kernel) rfl (.inr ⟨1, rfl, rfl, rfl⟩) : e_Sn 22 0 (o_load e_okI 1 1)) t_22_1
noncomputable def e_tb_22 : e_X := (e_lf 0 (e_un n_22_0))
theorem e_tk_22 : e_Tb 22 e_tb_22 := (e_lfT t_22_0)
theorem hq_21 : (e_ml[21]?).map (·.2.1) = some prog_3_method_4_code := Eq.trans (congrArg (Option.map (fun e => e.2.1)) hy_21) rfl
theorem ho_21 : (e_ml[21]?).map (·.1.cls) = some "Plateroomprinter$Engine" := Eq.trans (congrArg (Option.map (fun e => e.1.cls)) hy_21) rfl
theorem hr_21 : (e_ml[21]?).map (·.2.2.2) = some (some .int) := Eq.trans (congrArg (Option.map (fun e => e.2.2.2)) hy_21) rfl
noncomputable def n_21_158 : e_Y := u_retI
theorem t_21_158 : e_Sn 21 158 (e_un n_21_158) := u_retIT (s_iret hq_21 hr_21 (by decide +kernel) : e_Sn 21 158 (o_ret e_okI))
noncomputable def n_21_157 : e_Y := u_push (.inl 2147483647) n_21_158
theorem t_21_157 : e_Sn 21 157 (e_un n_21_157) := u_pushT (s_iconst (n := (-1)) hq_21 (by decide +kernel) rfl ⟨by decide +kernel, by decide +kernel⟩ : e_Sn 21 157 (o_push (.inl 2147483647) 158)) t_21_158
noncomputable def n_21_154 : e_Y := (u_at 2)
theorem t_21_154 : e_Sn 21 154 (e_un n_21_154) := u_gotoT (s_goto (off := (-152)) hq_21 (by decide +kernel) rfl : e_Sn 21 154 (o_goto 2)) u_atT
noncomputable def n_21_151 : e_Y := u_inc f_l1 f_s1 1 n_21_154
theorem t_21_151 : e_Sn 21 151 (e_un n_21_151) := u_incT f_l1_eq (fun _ _ _ => f_s1_eq) (s_iinc (zz := (1)) hq_21 (by decide +kernel) rfl (by decide +kernel) ⟨by decide, by decide⟩ : e_Sn 21 151 (o_iinc 1 1 154)) t_21_154
noncomputable def n_21_146 : e_Y := u_if y_ne0 (u_old2 (o_ifeq 151 149) 151 n_21_151 (u_at 149)) n_21_151 (u_at 149)
theorem t_21_146 : e_Sn 21 146 (e_un n_21_146) := u_ifeqT rfl (s_ifeq (off := (5)) hq_21 (by decide +kernel) rfl rfl : e_Sn 21 146 (o_ifeq 151 149)) t_21_151 u_atT
noncomputable def n_21_145 : e_Y := u_ld f_okI f_l3 n_21_146
theorem t_21_145 : e_Sn 21 145 (e_un n_21_145) := u_ldIT f_l3_eq (s_iload (i := .iload_n 3) (len := 1) hq_21 (by decide +kernel) rfl (.inr ⟨3, rfl, rfl, rfl⟩) : e_Sn 21 145 (o_load e_okI 3 146)) t_21_146
noncomputable def n_21_144 : e_Y := u_st f_okI f_s3 n_21_145
theorem t_21_144 : e_Sn 21 144 (e_un n_21_144) := u_stIT (fun _ _ _ => f_s3_eq) (s_istore (i := .istore_n 3) (len := 1) hq_21 (by decide +kernel) rfl (.inr ⟨3, rfl, rfl, rfl⟩) : e_Sn 21 144 (o_store e_okI 3 145)) t_21_145
noncomputable def n_21_143 : e_Y := u_push (.inl 2147483648) n_21_144
theorem t_21_143 : e_Sn 21 143 (e_un n_21_143) := u_pushT (s_iconst (n := (0)) hq_21 (by decide +kernel) rfl ⟨by decide +kernel, by decide +kernel⟩ : e_Sn 21 143 (o_push (.inl 2147483648) 144)) t_21_144
noncomputable def n_21_120 : e_Y := u_jmp y_ne (u_old2 (o_ceq 123 143) 123 (u_at 123) n_21_143) (u_at 123) n_21_143
theorem t_21_120 : e_Sn 21 120 (e_un n_21_120) := u_ceqT rfl (s_cne (off := (23)) hq_21 (by decide +kernel) rfl rfl : e_Sn 21 120 (o_ceq 123 143)) u_atT t_21_143
noncomputable def n_21_119 : e_Y := u_push (.inl 2147483650) n_21_120
theorem t_21_119 : e_Sn 21 119 (e_un n_21_119) := u_pushT (s_iconst (n := (2)) hq_21 (by decide +kernel) rfl ⟨by decide +kernel, by decide +kernel⟩ : e_Sn 21 119 (o_push (.inl 2147483650) 120)) t_21_120
noncomputable def n_21_118 : e_Y := u_ald 0 (u_old (o_ald e_fcs 119) n_21_119) n_21_119
theorem t_21_118 : e_Sn 21 118 (e_un n_21_118) := u_aldT (s_iald hq_21 (by decide +kernel) rfl : e_Sn 21 118 (o_ald e_fcs 119)) t_21_119
noncomputable def n_21_117 : e_Y := u_ld f_okI f_l2 n_21_118
theorem t_21_117 : e_Sn 21 117 (e_un n_21_117) := u_ldIT f_l2_eq (s_iload (i := .iload_n 2) (len := 1) hq_21 (by decide +kernel) rfl (.inr ⟨2, rfl, rfl, rfl⟩) : e_Sn 21 117 (o_load e_okI 2 118)) t_21_118
noncomputable def n_21_114 : e_Y := u_getf 2 9 (u_old (o_getf (e_f1 2 9) 117) n_21_117) n_21_117
theorem t_21_114 : e_Sn 21 114 (e_un n_21_114) := u_getfT (s_getf (C := er_2) (T := et_2) (N := 19) (ref := "Plateroomprinter$Engine") (index := 33) (ci := 2) (k := 9) hq_21 ho_21 ⟨rfl, by decide, ei_2, r_m_3_9, .inl rfl⟩ (by decide +kernel) rfl : e_Sn 21 114 (o_getf (e_f1 2 9) 117)) t_21_117
noncomputable def n_21_113 : e_Y := u_ld f_okA f_l0 n_21_114
theorem t_21_113 : e_Sn 21 113 (e_un n_21_113) := u_ldAT f_l0_eq (s_aload (i := .aload_n 0) (len := 1) hq_21 (by decide +kernel) rfl (.inr ⟨0, rfl, rfl, rfl⟩) : e_Sn 21 113 (o_load e_okR 0 114)) t_21_114
noncomputable def n_21_110 : e_Y := u_putf 2 14 f_okI (u_old (o_putf (e_f1 2 14) e_okI 113) n_21_113) n_21_113
theorem t_21_110 : e_Sn 21 110 (e_un n_21_110) := u_putfT (fun _ => f_okI_eq) (s_putf (ty0 := ey_2) (ok := e_okI) (C := er_2) (T := et_2) (N := 19) (ref := "Plateroomprinter$Engine") (index := 57) (ci := 2) (k := 14) hq_21 ho_21 ⟨rfl, by decide, ei_2, r_m_3_14, .inl rfl⟩ eo_2 en_2 e_oksI (.inl rfl) (by decide +kernel) rfl : e_Sn 21 110 (o_putf (e_f1 2 14) e_okI 113)) t_21_113
noncomputable def n_21_109 : e_Y := u_bin a_iadd (u_old (o_iadd 110) n_21_110) n_21_110
theorem t_21_109 : e_Sn 21 109 (e_un n_21_109) := u_iaddT (s_iadd hq_21 (by decide +kernel) rfl : e_Sn 21 109 (o_iadd 110)) t_21_110
noncomputable def n_21_108 : e_Y := u_push (.inl 2147483649) n_21_109
theorem t_21_108 : e_Sn 21 108 (e_un n_21_108) := u_pushT (s_iconst (n := (1)) hq_21 (by decide +kernel) rfl ⟨by decide +kernel, by decide +kernel⟩ : e_Sn 21 108 (o_push (.inl 2147483649) 109)) t_21_109
noncomputable def n_21_105 : e_Y := u_getf 2 14 (u_old (o_getf (e_f1 2 14) 108) n_21_108) n_21_108
theorem t_21_105 : e_Sn 21 105 (e_un n_21_105) := u_getfT (s_getf (C := er_2) (T := et_2) (N := 19) (ref := "Plateroomprinter$Engine") (index := 57) (ci := 2) (k := 14) hq_21 ho_21 ⟨rfl, by decide, ei_2, r_m_3_14, .inl rfl⟩ (by decide +kernel) rfl : e_Sn 21 105 (o_getf (e_f1 2 14) 108)) t_21_108
noncomputable def n_21_104 : e_Y := u_old (o_dup 105) n_21_105
theorem t_21_104 : e_Sn 21 104 (e_un n_21_104) := u_oldT (s_dup hq_21 (by decide +kernel) rfl : e_Sn 21 104 (o_dup 105)) t_21_105 e_cg_dup
noncomputable def n_21_103 : e_Y := u_ld f_okA f_l0 n_21_104
theorem t_21_103 : e_Sn 21 103 (e_un n_21_103) := u_ldAT f_l0_eq (s_aload (i := .aload_n 0) (len := 1) hq_21 (by decide +kernel) rfl (.inr ⟨0, rfl, rfl, rfl⟩) : e_Sn 21 103 (o_load e_okR 0 104)) t_21_104
noncomputable def n_21_102 : e_Y := u_ast 0 f_okI (u_old (o_ast 0 e_okI 103) n_21_103) n_21_103
theorem t_21_102 : e_Sn 21 102 (e_un n_21_102) := u_astT (fun _ => f_okI_eq) (s_iast hq_21 (by decide +kernel) rfl : e_Sn 21 102 (o_ast 0 e_okI 103)) t_21_103
noncomputable def n_21_101 : e_Y := u_ald 0 (u_old (o_ald e_fcs 102) n_21_102) n_21_102
theorem t_21_101 : e_Sn 21 101 (e_un n_21_101) := u_aldT (s_iald hq_21 (by decide +kernel) rfl : e_Sn 21 101 (o_ald e_fcs 102)) t_21_102
noncomputable def n_21_100 : e_Y := u_ld f_okI f_l2 n_21_101
theorem t_21_100 : e_Sn 21 100 (e_un n_21_100) := u_ldIT f_l2_eq (s_iload (i := .iload_n 2) (len := 1) hq_21 (by decide +kernel) rfl (.inr ⟨2, rfl, rfl, rfl⟩) : e_Sn 21 100 (o_load e_okI 2 101)) t_21_101
noncomputable def n_21_97 : e_Y := u_getf 2 5 (u_old (o_getf (e_f1 2 5) 100) n_21_100) n_21_100
theorem t_21_97 : e_Sn 21 97 (e_un n_21_97) := u_getfT (s_getf (C := er_2) (T := et_2) (N := 19) (ref := "Plateroomprinter$Engine") (index := 21) (ci := 2) (k := 5) hq_21 ho_21 ⟨rfl, by decide, ei_2, r_m_3_5, .inl rfl⟩ (by decide +kernel) rfl : e_Sn 21 97 (o_getf (e_f1 2 5) 100)) t_21_100
noncomputable def n_21_96 : e_Y := u_ld f_okA f_l0 n_21_97
theorem t_21_96 : e_Sn 21 96 (e_un n_21_96) := u_ldAT f_l0_eq (s_aload (i := .aload_n 0) (len := 1) hq_21 (by decide +kernel) rfl (.inr ⟨0, rfl, rfl, rfl⟩) : e_Sn 21 96 (o_load e_okR 0 97)) t_21_97
noncomputable def n_21_95 : e_Y := u_ld f_okI f_l2 n_21_96
theorem t_21_95 : e_Sn 21 95 (e_un n_21_95) := u_ldIT f_l2_eq (s_iload (i := .iload_n 2) (len := 1) hq_21 (by decide +kernel) rfl (.inr ⟨2, rfl, rfl, rfl⟩) : e_Sn 21 95 (o_load e_okI 2 96)) t_21_96
noncomputable def n_21_92 : e_Y := u_getf 2 7 (u_old (o_getf (e_f1 2 7) 95) n_21_95) n_21_95
theorem t_21_92 : e_Sn 21 92 (e_un n_21_92) := u_getfT (s_getf (C := er_2) (T := et_2) (N := 19) (ref := "Plateroomprinter$Engine") (index := 27) (ci := 2) (k := 7) hq_21 ho_21 ⟨rfl, by decide, ei_2, r_m_3_7, .inl rfl⟩ (by decide +kernel) rfl : e_Sn 21 92 (o_getf (e_f1 2 7) 95)) t_21_95
noncomputable def n_21_91 : e_Y := u_ld f_okA f_l0 n_21_92
theorem t_21_91 : e_Sn 21 91 (e_un n_21_91) := u_ldAT f_l0_eq (s_aload (i := .aload_n 0) (len := 1) hq_21 (by decide +kernel) rfl (.inr ⟨0, rfl, rfl, rfl⟩) : e_Sn 21 91 (o_load e_okR 0 92)) t_21_92
noncomputable def n_21_90 : e_Y := u_ast 0 f_okI (u_old (o_ast 0 e_okI 91) n_21_91) n_21_91
theorem t_21_90 : e_Sn 21 90 (e_un n_21_90) := u_astT (fun _ => f_okI_eq) (s_iast hq_21 (by decide +kernel) rfl : e_Sn 21 90 (o_ast 0 e_okI 91)) t_21_91
noncomputable def n_21_89 : e_Y := u_bin a_iadd (u_old (o_iadd 90) n_21_90) n_21_90
theorem t_21_89 : e_Sn 21 89 (e_un n_21_89) := u_iaddT (s_iadd hq_21 (by decide +kernel) rfl : e_Sn 21 89 (o_iadd 90)) t_21_90
noncomputable def n_21_88 : e_Y := u_ald 0 (u_old (o_ald e_fcs 89) n_21_89) n_21_89
theorem t_21_88 : e_Sn 21 88 (e_un n_21_88) := u_aldT (s_iald hq_21 (by decide +kernel) rfl : e_Sn 21 88 (o_ald e_fcs 89)) t_21_89
noncomputable def n_21_87 : e_Y := u_ld f_okI f_l2 n_21_88
theorem t_21_87 : e_Sn 21 87 (e_un n_21_87) := u_ldIT f_l2_eq (s_iload (i := .iload_n 2) (len := 1) hq_21 (by decide +kernel) rfl (.inr ⟨2, rfl, rfl, rfl⟩) : e_Sn 21 87 (o_load e_okI 2 88)) t_21_88
noncomputable def n_21_84 : e_Y := u_getf 2 11 (u_old (o_getf (e_f1 2 11) 87) n_21_87) n_21_87
theorem t_21_84 : e_Sn 21 84 (e_un n_21_84) := u_getfT (s_getf (C := er_2) (T := et_2) (N := 19) (ref := "Plateroomprinter$Engine") (index := 39) (ci := 2) (k := 11) hq_21 ho_21 ⟨rfl, by decide, ei_2, r_m_3_11, .inl rfl⟩ (by decide +kernel) rfl : e_Sn 21 84 (o_getf (e_f1 2 11) 87)) t_21_87
noncomputable def n_21_83 : e_Y := u_ld f_okA f_l0 n_21_84
theorem t_21_83 : e_Sn 21 83 (e_un n_21_83) := u_ldAT f_l0_eq (s_aload (i := .aload_n 0) (len := 1) hq_21 (by decide +kernel) rfl (.inr ⟨0, rfl, rfl, rfl⟩) : e_Sn 21 83 (o_load e_okR 0 84)) t_21_84
noncomputable def n_21_82 : e_Y := u_ald 0 (u_old (o_ald e_fcs 83) n_21_83) n_21_83
theorem t_21_82 : e_Sn 21 82 (e_un n_21_82) := u_aldT (s_iald hq_21 (by decide +kernel) rfl : e_Sn 21 82 (o_ald e_fcs 83)) t_21_83
noncomputable def n_21_81 : e_Y := u_old (o_dup2 82) n_21_82
theorem t_21_81 : e_Sn 21 81 (e_un n_21_81) := u_oldT (s_dup2 hq_21 (by decide +kernel) rfl : e_Sn 21 81 (o_dup2 82)) t_21_82 e_cg_dup2
noncomputable def n_21_80 : e_Y := u_ld f_okI f_l2 n_21_81
theorem t_21_80 : e_Sn 21 80 (e_un n_21_80) := u_ldIT f_l2_eq (s_iload (i := .iload_n 2) (len := 1) hq_21 (by decide +kernel) rfl (.inr ⟨2, rfl, rfl, rfl⟩) : e_Sn 21 80 (o_load e_okI 2 81)) t_21_81
noncomputable def n_21_77 : e_Y := u_getf 2 10 (u_old (o_getf (e_f1 2 10) 80) n_21_80) n_21_80
theorem t_21_77 : e_Sn 21 77 (e_un n_21_77) := u_getfT (s_getf (C := er_2) (T := et_2) (N := 19) (ref := "Plateroomprinter$Engine") (index := 36) (ci := 2) (k := 10) hq_21 ho_21 ⟨rfl, by decide, ei_2, r_m_3_10, .inl rfl⟩ (by decide +kernel) rfl : e_Sn 21 77 (o_getf (e_f1 2 10) 80)) t_21_80
noncomputable def n_21_76 : e_Y := u_ld f_okA f_l0 n_21_77
theorem t_21_76 : e_Sn 21 76 (e_un n_21_76) := u_ldAT f_l0_eq (s_aload (i := .aload_n 0) (len := 1) hq_21 (by decide +kernel) rfl (.inr ⟨0, rfl, rfl, rfl⟩) : e_Sn 21 76 (o_load e_okR 0 77)) t_21_77
noncomputable def n_21_73 : e_Y := u_callV 2 22 2 21 2 n_22_0 n_21_76
theorem t_21_73 : e_Sn 21 73 (e_un n_21_73) := u_callVT rfl (s_callV (ci := 2) (C := er_2) (T := et_2) (N := 19) (index := 89) hq_21 ho_21 hy_22 hp_22 hc_22 hi_22 hd_22 r_m_3_180 hs_22 (List.mem_of_getElem? (i := 2) (by decide +kernel)) rfl (by decide +kernel) rfl : e_Sn 21 73 (o_callV (e_s1 2 22 2) 2 76)) t_22_0 t_21_76
noncomputable def n_21_72 : e_Y := u_bin a_isub (u_old (o_isub 73) n_21_73) n_21_73
theorem t_21_72 : e_Sn 21 72 (e_un n_21_72) := u_isubT (s_isub hq_21 (by decide +kernel) rfl : e_Sn 21 72 (o_isub 73)) t_21_73
noncomputable def n_21_71 : e_Y := u_push (.inl 2147483649) n_21_72
theorem t_21_71 : e_Sn 21 71 (e_un n_21_71) := u_pushT (s_iconst (n := (1)) hq_21 (by decide +kernel) rfl ⟨by decide +kernel, by decide +kernel⟩ : e_Sn 21 71 (o_push (.inl 2147483649) 72)) t_21_72
noncomputable def n_21_70 : e_Y := u_ld f_okI f_l2 n_21_71
theorem t_21_70 : e_Sn 21 70 (e_un n_21_70) := u_ldIT f_l2_eq (s_iload (i := .iload_n 2) (len := 1) hq_21 (by decide +kernel) rfl (.inr ⟨2, rfl, rfl, rfl⟩) : e_Sn 21 70 (o_load e_okI 2 71)) t_21_71
noncomputable def n_21_69 : e_Y := u_ld f_okA f_l0 n_21_70
theorem t_21_69 : e_Sn 21 69 (e_un n_21_69) := u_ldAT f_l0_eq (s_aload (i := .aload_n 0) (len := 1) hq_21 (by decide +kernel) rfl (.inr ⟨0, rfl, rfl, rfl⟩) : e_Sn 21 69 (o_load e_okR 0 70)) t_21_70
noncomputable def n_21_66 : e_Y := n_21_151
theorem t_21_66 : e_Sn 21 66 (e_un n_21_66) := u_gotoT (s_goto (off := (85)) hq_21 (by decide +kernel) rfl : e_Sn 21 66 (o_goto 151)) t_21_151
noncomputable def n_21_63 : e_Y := u_putf 2 13 f_okI (u_old (o_putf (e_f1 2 13) e_okI 66) n_21_66) n_21_66
theorem t_21_63 : e_Sn 21 63 (e_un n_21_63) := u_putfT (fun _ => f_okI_eq) (s_putf (ty0 := ey_2) (ok := e_okI) (C := er_2) (T := et_2) (N := 19) (ref := "Plateroomprinter$Engine") (index := 53) (ci := 2) (k := 13) hq_21 ho_21 ⟨rfl, by decide, ei_2, r_m_3_13, .inl rfl⟩ eo_2 en_2 e_oksI (.inl rfl) (by decide +kernel) rfl : e_Sn 21 63 (o_putf (e_f1 2 13) e_okI 66)) t_21_66
noncomputable def n_21_62 : e_Y := u_bin a_isub (u_old (o_isub 63) n_21_63) n_21_63
theorem t_21_62 : e_Sn 21 62 (e_un n_21_62) := u_isubT (s_isub hq_21 (by decide +kernel) rfl : e_Sn 21 62 (o_isub 63)) t_21_63
noncomputable def n_21_61 : e_Y := u_push (.inl 2147483649) n_21_62
theorem t_21_61 : e_Sn 21 61 (e_un n_21_61) := u_pushT (s_iconst (n := (1)) hq_21 (by decide +kernel) rfl ⟨by decide +kernel, by decide +kernel⟩ : e_Sn 21 61 (o_push (.inl 2147483649) 62)) t_21_62
noncomputable def n_21_58 : e_Y := u_getf 2 13 (u_old (o_getf (e_f1 2 13) 61) n_21_61) n_21_61
theorem t_21_58 : e_Sn 21 58 (e_un n_21_58) := u_getfT (s_getf (C := er_2) (T := et_2) (N := 19) (ref := "Plateroomprinter$Engine") (index := 53) (ci := 2) (k := 13) hq_21 ho_21 ⟨rfl, by decide, ei_2, r_m_3_13, .inl rfl⟩ (by decide +kernel) rfl : e_Sn 21 58 (o_getf (e_f1 2 13) 61)) t_21_61
noncomputable def n_21_57 : e_Y := u_old (o_dup 58) n_21_58
theorem t_21_57 : e_Sn 21 57 (e_un n_21_57) := u_oldT (s_dup hq_21 (by decide +kernel) rfl : e_Sn 21 57 (o_dup 58)) t_21_58 e_cg_dup
noncomputable def n_21_56 : e_Y := u_ld f_okA f_l0 n_21_57
theorem t_21_56 : e_Sn 21 56 (e_un n_21_56) := u_ldAT f_l0_eq (s_aload (i := .aload_n 0) (len := 1) hq_21 (by decide +kernel) rfl (.inr ⟨0, rfl, rfl, rfl⟩) : e_Sn 21 56 (o_load e_okR 0 57)) t_21_57
noncomputable def n_21_53 : e_Y := u_if y_ne0 (u_old2 (o_ifeq 56 69) 56 n_21_56 n_21_69) n_21_56 n_21_69
theorem t_21_53 : e_Sn 21 53 (e_un n_21_53) := u_ifeqT rfl (s_ifne (off := (16)) hq_21 (by decide +kernel) rfl rfl : e_Sn 21 53 (o_ifeq 56 69)) t_21_56 t_21_69
noncomputable def n_21_50 : e_Y := u_callV 2 18 3 22 2 n_18_0 n_21_53
theorem t_21_50 : e_Sn 21 50 (e_un n_21_50) := u_callVT rfl (s_callV (ci := 2) (C := er_2) (T := et_2) (N := 19) (index := 85) hq_21 ho_21 hy_18 hp_18 hc_18 hi_18 hd_18 (r_k3 (List.mem_of_getElem? (i := 176) (by decide +kernel))) hs_18 (List.mem_of_getElem? (i := 1) (by decide +kernel)) rfl (by decide +kernel) rfl : e_Sn 21 50 (o_callV (e_s1 2 18 3) 2 53)) t_18_0 t_21_53
noncomputable def n_21_49 : e_Y := u_ld f_okI f_l2 n_21_50
theorem t_21_49 : e_Sn 21 49 (e_un n_21_49) := u_ldIT f_l2_eq (s_iload (i := .iload_n 2) (len := 1) hq_21 (by decide +kernel) rfl (.inr ⟨2, rfl, rfl, rfl⟩) : e_Sn 21 49 (o_load e_okI 2 50)) t_21_50
noncomputable def n_21_48 : e_Y := u_ld f_okA f_l0 n_21_49
theorem t_21_48 : e_Sn 21 48 (e_un n_21_48) := u_ldAT f_l0_eq (s_aload (i := .aload_n 0) (len := 1) hq_21 (by decide +kernel) rfl (.inr ⟨0, rfl, rfl, rfl⟩) : e_Sn 21 48 (o_load e_okR 0 49)) t_21_49
noncomputable def n_21_47 : e_Y := u_retI
theorem t_21_47 : e_Sn 21 47 (e_un n_21_47) := u_retIT (s_iret hq_21 hr_21 (by decide +kernel) : e_Sn 21 47 (o_ret e_okI))
noncomputable def n_21_46 : e_Y := u_push (.inl 2147483648) n_21_47
theorem t_21_46 : e_Sn 21 46 (e_un n_21_46) := u_pushT (s_iconst (n := (0)) hq_21 (by decide +kernel) rfl ⟨by decide +kernel, by decide +kernel⟩ : e_Sn 21 46 (o_push (.inl 2147483648) 47)) t_21_47
noncomputable def n_21_43 : e_Y := u_jmp y_ge (u_old2 (o_clt 46 48) 46 n_21_46 n_21_48) n_21_46 n_21_48
theorem t_21_43 : e_Sn 21 43 (e_un n_21_43) := u_cltT rfl (s_cge (off := (5)) hq_21 (by decide +kernel) rfl rfl : e_Sn 21 43 (o_clt 46 48)) t_21_46 t_21_48
noncomputable def n_21_42 : e_Y := u_ald 0 (u_old (o_ald e_fcs 43) n_21_43) n_21_43
theorem t_21_42 : e_Sn 21 42 (e_un n_21_42) := u_aldT (s_iald hq_21 (by decide +kernel) rfl : e_Sn 21 42 (o_ald e_fcs 43)) t_21_43
noncomputable def n_21_41 : e_Y := u_ld f_okI f_l2 n_21_42
theorem t_21_41 : e_Sn 21 41 (e_un n_21_41) := u_ldIT f_l2_eq (s_iload (i := .iload_n 2) (len := 1) hq_21 (by decide +kernel) rfl (.inr ⟨2, rfl, rfl, rfl⟩) : e_Sn 21 41 (o_load e_okI 2 42)) t_21_42
noncomputable def n_21_38 : e_Y := u_getf 2 6 (u_old (o_getf (e_f1 2 6) 41) n_21_41) n_21_41
theorem t_21_38 : e_Sn 21 38 (e_un n_21_38) := u_getfT (s_getf (C := er_2) (T := et_2) (N := 19) (ref := "Plateroomprinter$Engine") (index := 24) (ci := 2) (k := 6) hq_21 ho_21 ⟨rfl, by decide, ei_2, r_m_3_6, .inl rfl⟩ (by decide +kernel) rfl : e_Sn 21 38 (o_getf (e_f1 2 6) 41)) t_21_41
noncomputable def n_21_37 : e_Y := u_ld f_okA f_l0 n_21_38
theorem t_21_37 : e_Sn 21 37 (e_un n_21_37) := u_ldAT f_l0_eq (s_aload (i := .aload_n 0) (len := 1) hq_21 (by decide +kernel) rfl (.inr ⟨0, rfl, rfl, rfl⟩) : e_Sn 21 37 (o_load e_okR 0 38)) t_21_38
noncomputable def n_21_36 : e_Y := u_ald 0 (u_old (o_ald e_fcs 37) n_21_37) n_21_37
theorem t_21_36 : e_Sn 21 36 (e_un n_21_36) := u_aldT (s_iald hq_21 (by decide +kernel) rfl : e_Sn 21 36 (o_ald e_fcs 37)) t_21_37
noncomputable def n_21_35 : e_Y := u_ld f_okI f_l2 n_21_36
theorem t_21_35 : e_Sn 21 35 (e_un n_21_35) := u_ldIT f_l2_eq (s_iload (i := .iload_n 2) (len := 1) hq_21 (by decide +kernel) rfl (.inr ⟨2, rfl, rfl, rfl⟩) : e_Sn 21 35 (o_load e_okI 2 36)) t_21_36
noncomputable def n_21_32 : e_Y := u_getf 2 7 (u_old (o_getf (e_f1 2 7) 35) n_21_35) n_21_35
theorem t_21_32 : e_Sn 21 32 (e_un n_21_32) := u_getfT (s_getf (C := er_2) (T := et_2) (N := 19) (ref := "Plateroomprinter$Engine") (index := 27) (ci := 2) (k := 7) hq_21 ho_21 ⟨rfl, by decide, ei_2, r_m_3_7, .inl rfl⟩ (by decide +kernel) rfl : e_Sn 21 32 (o_getf (e_f1 2 7) 35)) t_21_35
noncomputable def n_21_31 : e_Y := u_ld f_okA f_l0 n_21_32
theorem t_21_31 : e_Sn 21 31 (e_un n_21_31) := u_ldAT f_l0_eq (s_aload (i := .aload_n 0) (len := 1) hq_21 (by decide +kernel) rfl (.inr ⟨0, rfl, rfl, rfl⟩) : e_Sn 21 31 (o_load e_okR 0 32)) t_21_32
noncomputable def n_21_30 : e_Y := u_st f_okI f_s2 n_21_31
theorem t_21_30 : e_Sn 21 30 (e_un n_21_30) := u_stIT (fun _ _ _ => f_s2_eq) (s_istore (i := .istore_n 2) (len := 1) hq_21 (by decide +kernel) rfl (.inr ⟨2, rfl, rfl, rfl⟩) : e_Sn 21 30 (o_store e_okI 2 31)) t_21_31
noncomputable def n_21_29 : e_Y := u_bin a_isub (u_old (o_isub 30) n_21_30) n_21_30
theorem t_21_29 : e_Sn 21 29 (e_un n_21_29) := u_isubT (s_isub hq_21 (by decide +kernel) rfl : e_Sn 21 29 (o_isub 30)) t_21_30
noncomputable def n_21_28 : e_Y := u_push (.inl 2147483649) n_21_29
theorem t_21_28 : e_Sn 21 28 (e_un n_21_28) := u_pushT (s_iconst (n := (1)) hq_21 (by decide +kernel) rfl ⟨by decide +kernel, by decide +kernel⟩ : e_Sn 21 28 (o_push (.inl 2147483649) 29)) t_21_29
noncomputable def n_21_25 : e_Y := u_getf 2 13 (u_old (o_getf (e_f1 2 13) 28) n_21_28) n_21_28
theorem t_21_25 : e_Sn 21 25 (e_un n_21_25) := u_getfT (s_getf (C := er_2) (T := et_2) (N := 19) (ref := "Plateroomprinter$Engine") (index := 53) (ci := 2) (k := 13) hq_21 ho_21 ⟨rfl, by decide, ei_2, r_m_3_13, .inl rfl⟩ (by decide +kernel) rfl : e_Sn 21 25 (o_getf (e_f1 2 13) 28)) t_21_28
noncomputable def n_21_24 : e_Y := u_ld f_okA f_l0 n_21_25
theorem t_21_24 : e_Sn 21 24 (e_un n_21_24) := u_ldAT f_l0_eq (s_aload (i := .aload_n 0) (len := 1) hq_21 (by decide +kernel) rfl (.inr ⟨0, rfl, rfl, rfl⟩) : e_Sn 21 24 (o_load e_okR 0 25)) t_21_25
noncomputable def n_21_21 : e_Y := u_jmp y_le (u_old2 (o_cgt 157 24) 157 n_21_157 n_21_24) n_21_157 n_21_24
theorem t_21_21 : e_Sn 21 21 (e_un n_21_21) := u_cgtT rfl (s_cgt (off := (136)) hq_21 (by decide +kernel) rfl rfl : e_Sn 21 21 (o_cgt 157 24)) t_21_157 t_21_24
noncomputable def n_21_19 : e_Y := u_push (.inl 2147483660) n_21_21
theorem t_21_19 : e_Sn 21 19 (e_un n_21_19) := u_pushT (s_bipush (n := (12)) hq_21 (by decide +kernel) rfl ⟨by decide +kernel, by decide +kernel⟩ : e_Sn 21 19 (o_push (.inl 2147483660) 21)) t_21_21
noncomputable def n_21_16 : e_Y := u_getf 2 13 (u_old (o_getf (e_f1 2 13) 19) n_21_19) n_21_19
theorem t_21_16 : e_Sn 21 16 (e_un n_21_16) := u_getfT (s_getf (C := er_2) (T := et_2) (N := 19) (ref := "Plateroomprinter$Engine") (index := 53) (ci := 2) (k := 13) hq_21 ho_21 ⟨rfl, by decide, ei_2, r_m_3_13, .inl rfl⟩ (by decide +kernel) rfl : e_Sn 21 16 (o_getf (e_f1 2 13) 19)) t_21_19
noncomputable def n_21_15 : e_Y := u_ld f_okA f_l0 n_21_16
theorem t_21_15 : e_Sn 21 15 (e_un n_21_15) := u_ldAT f_l0_eq (s_aload (i := .aload_n 0) (len := 1) hq_21 (by decide +kernel) rfl (.inr ⟨0, rfl, rfl, rfl⟩) : e_Sn 21 15 (o_load e_okR 0 16)) t_21_16
noncomputable def n_21_12 : e_Y := u_if y_le0 (u_old2 (o_ifgt 15 157) 15 n_21_15 n_21_157) n_21_15 n_21_157
theorem t_21_12 : e_Sn 21 12 (e_un n_21_12) := u_ifgtT rfl (s_ifle (off := (145)) hq_21 (by decide +kernel) rfl rfl : e_Sn 21 12 (o_ifgt 15 157)) t_21_15 t_21_157
noncomputable def n_21_9 : e_Y := u_getf 2 13 (u_old (o_getf (e_f1 2 13) 12) n_21_12) n_21_12
theorem t_21_9 : e_Sn 21 9 (e_un n_21_9) := u_getfT (s_getf (C := er_2) (T := et_2) (N := 19) (ref := "Plateroomprinter$Engine") (index := 53) (ci := 2) (k := 13) hq_21 ho_21 ⟨rfl, by decide, ei_2, r_m_3_13, .inl rfl⟩ (by decide +kernel) rfl : e_Sn 21 9 (o_getf (e_f1 2 13) 12)) t_21_12
noncomputable def n_21_8 : e_Y := u_ld f_okA f_l0 n_21_9
theorem t_21_8 : e_Sn 21 8 (e_un n_21_8) := u_ldAT f_l0_eq (s_aload (i := .aload_n 0) (len := 1) hq_21 (by decide +kernel) rfl (.inr ⟨0, rfl, rfl, rfl⟩) : e_Sn 21 8 (o_load e_okR 0 9)) t_21_9
noncomputable def n_21_5 : e_Y := u_jmp y_ge (u_old2 (o_clt 8 157) 8 n_21_8 n_21_157) n_21_8 n_21_157
theorem t_21_5 : e_Sn 21 5 (e_un n_21_5) := u_cltT rfl (s_cge (off := (152)) hq_21 (by decide +kernel) rfl rfl : e_Sn 21 5 (o_clt 8 157)) t_21_8 t_21_157
noncomputable def n_21_3 : e_Y := u_push (e_I 2148483648) n_21_5
theorem t_21_3 : e_Sn 21 3 (e_un n_21_3) := u_pushT (s_ldc (index := 84) (v := (1000000)) hq_21 ho_21 (r_k3 (List.mem_of_getElem? (i := 175) (by decide +kernel))) (by decide +kernel) rfl ⟨by decide +kernel, by decide +kernel⟩ : e_Sn 21 3 (o_push (e_I 2148483648) 5)) t_21_5
noncomputable def n_21_2 : e_Y := u_ld f_okI f_l1 n_21_3
theorem t_21_2 : e_Sn 21 2 (e_un n_21_2) := u_ldIT f_l1_eq (s_iload (i := .iload_n 1) (len := 1) hq_21 (by decide +kernel) rfl (.inr ⟨1, rfl, rfl, rfl⟩) : e_Sn 21 2 (o_load e_okI 1 3)) t_21_3
noncomputable def n_21_1 : e_Y := u_st f_okI f_s1 n_21_2
theorem t_21_1 : e_Sn 21 1 (e_un n_21_1) := u_stIT (fun _ _ _ => f_s1_eq) (s_istore (i := .istore_n 1) (len := 1) hq_21 (by decide +kernel) rfl (.inr ⟨1, rfl, rfl, rfl⟩) : e_Sn 21 1 (o_store e_okI 1 2)) t_21_2
noncomputable def n_21_0 : e_Y := u_push (.inl 2147483648) n_21_1
theorem t_21_0 : e_Sn 21 0 (e_un n_21_0) := u_pushT (s_iconst (n := (0)) hq_21 (by decide +kernel) rfl ⟨by decide +kernel, by decide +kernel⟩ : e_Sn 21 0 (o_push (.inl 2147483648) 1)) t_21_1
noncomputable def e_tb_21 : e_X := (e_br 2 (e_lf 0 (e_un n_21_0)) (e_lf 2 (e_un n_21_2)))
theorem e_tk_21 : e_Tb 21 e_tb_21 := (e_brT (e_lfT t_21_0) (e_lfT t_21_2))
theorem hq_10 : (e_ml[10]?).map (·.2.1) = some prog_2_method_3_code := Eq.trans (congrArg (Option.map (fun e => e.2.1)) hy_10) rfl
theorem ho_10 : (e_ml[10]?).map (·.1.cls) = some "Plateroomprinter$Code" := Eq.trans (congrArg (Option.map (fun e => e.1.cls)) hy_10) rfl
theorem hr_10 : (e_ml[10]?).map (·.2.2.2) = some (some .int) := Eq.trans (congrArg (Option.map (fun e => e.2.2.2)) hy_10) rfl
noncomputable def n_10_21 : e_Y := u_retI
theorem t_10_21 : e_Sn 10 21 (e_un n_10_21) := u_retIT (s_iret hq_10 hr_10 (by decide +kernel) : e_Sn 10 21 (o_ret e_okI))
noncomputable def n_10_17 : e_Y := n_10_21
theorem t_10_17 : e_Sn 10 17 (e_un n_10_17) := u_gotoT (s_goto (off := (4)) hq_10 (by decide +kernel) rfl : e_Sn 10 17 (o_goto 21)) t_10_21
noncomputable def n_10_16 : e_Y := u_ald 0 (u_old (o_ald e_fcs 17) n_10_17) n_10_17
theorem t_10_16 : e_Sn 10 16 (e_un n_10_16) := u_aldT (s_iald hq_10 (by decide +kernel) rfl : e_Sn 10 16 (o_ald e_fcs 17)) t_10_17
noncomputable def n_10_15 : e_Y := u_ld f_okI f_l1 n_10_16
theorem t_10_15 : e_Sn 10 15 (e_un n_10_15) := u_ldIT f_l1_eq (s_iload (i := .iload_n 1) (len := 1) hq_10 (by decide +kernel) rfl (.inr ⟨1, rfl, rfl, rfl⟩) : e_Sn 10 15 (o_load e_okI 1 16)) t_10_16
noncomputable def n_10_12 : e_Y := u_getf 1 0 (u_old (o_getf (e_f1 1 0) 15) n_10_15) n_10_15
theorem t_10_12 : e_Sn 10 12 (e_un n_10_12) := u_getfT (s_getf (C := er_1) (T := et_1) (N := 4) (ref := "Plateroomprinter$Code") (index := 11) (ci := 1) (k := 0) hq_10 ho_10 ⟨rfl, by decide, ei_1, r_m_1_61, .inl rfl⟩ (by decide +kernel) rfl : e_Sn 10 12 (o_getf (e_f1 1 0) 15)) t_10_15
noncomputable def n_10_11 : e_Y := u_ld f_okA f_l0 n_10_12
theorem t_10_11 : e_Sn 10 11 (e_un n_10_11) := u_ldAT f_l0_eq (s_aload (i := .aload_n 0) (len := 1) hq_10 (by decide +kernel) rfl (.inr ⟨0, rfl, rfl, rfl⟩) : e_Sn 10 11 (o_load e_okR 0 12)) t_10_12
noncomputable def n_10_8 : e_Y := u_jmp y_ge (u_old2 (o_clt 11 20) 11 n_10_11 (u_at 20)) n_10_11 (u_at 20)
theorem t_10_8 : e_Sn 10 8 (e_un n_10_8) := u_cltT rfl (s_cge (off := (12)) hq_10 (by decide +kernel) rfl rfl : e_Sn 10 8 (o_clt 11 20)) t_10_11 u_atT
noncomputable def n_10_5 : e_Y := u_push (.inl 2147485648) n_10_8
theorem t_10_5 : e_Sn 10 5 (e_un n_10_5) := u_pushT (s_sipush (n := (2000)) hq_10 (by decide +kernel) rfl ⟨by decide +kernel, by decide +kernel⟩ : e_Sn 10 5 (o_push (.inl 2147485648) 8)) t_10_8
noncomputable def n_10_4 : e_Y := u_ld f_okI f_l1 n_10_5
theorem t_10_4 : e_Sn 10 4 (e_un n_10_4) := u_ldIT f_l1_eq (s_iload (i := .iload_n 1) (len := 1) hq_10 (by decide +kernel) rfl (.inr ⟨1, rfl, rfl, rfl⟩) : e_Sn 10 4 (o_load e_okI 1 5)) t_10_5
noncomputable def n_10_1 : e_Y := u_if y_ge0 (u_old2 (o_iflt 20 4) 20 (u_at 20) n_10_4) (u_at 20) n_10_4
theorem t_10_1 : e_Sn 10 1 (e_un n_10_1) := u_ifltT rfl (s_iflt (off := (19)) hq_10 (by decide +kernel) rfl rfl : e_Sn 10 1 (o_iflt 20 4)) u_atT t_10_4
noncomputable def n_10_0 : e_Y := u_ld f_okI f_l1 n_10_1
theorem t_10_0 : e_Sn 10 0 (e_un n_10_0) := u_ldIT f_l1_eq (s_iload (i := .iload_n 1) (len := 1) hq_10 (by decide +kernel) rfl (.inr ⟨1, rfl, rfl, rfl⟩) : e_Sn 10 0 (o_load e_okI 1 1)) t_10_1
noncomputable def e_tb_10 : e_X := (e_lf 0 (e_un n_10_0))
theorem e_tk_10 : e_Tb 10 e_tb_10 := (e_lfT t_10_0)
theorem hq_11 : (e_ml[11]?).map (·.2.1) = some prog_2_method_4_code := Eq.trans (congrArg (Option.map (fun e => e.2.1)) hy_11) rfl
theorem ho_11 : (e_ml[11]?).map (·.1.cls) = some "Plateroomprinter$Code" := Eq.trans (congrArg (Option.map (fun e => e.1.cls)) hy_11) rfl
theorem hr_11 : (e_ml[11]?).map (·.2.2.2) = some (some .int) := Eq.trans (congrArg (Option.map (fun e => e.2.2.2)) hy_11) rfl
noncomputable def n_11_21 : e_Y := u_retI
theorem t_11_21 : e_Sn 11 21 (e_un n_11_21) := u_retIT (s_iret hq_11 hr_11 (by decide +kernel) : e_Sn 11 21 (o_ret e_okI))
noncomputable def n_11_17 : e_Y := n_11_21
theorem t_11_17 : e_Sn 11 17 (e_un n_11_17) := u_gotoT (s_goto (off := (4)) hq_11 (by decide +kernel) rfl : e_Sn 11 17 (o_goto 21)) t_11_21
noncomputable def n_11_16 : e_Y := u_ald 0 (u_old (o_ald e_fcs 17) n_11_17) n_11_17
theorem t_11_16 : e_Sn 11 16 (e_un n_11_16) := u_aldT (s_iald hq_11 (by decide +kernel) rfl : e_Sn 11 16 (o_ald e_fcs 17)) t_11_17
noncomputable def n_11_15 : e_Y := u_ld f_okI f_l1 n_11_16
theorem t_11_15 : e_Sn 11 15 (e_un n_11_15) := u_ldIT f_l1_eq (s_iload (i := .iload_n 1) (len := 1) hq_11 (by decide +kernel) rfl (.inr ⟨1, rfl, rfl, rfl⟩) : e_Sn 11 15 (o_load e_okI 1 16)) t_11_16
noncomputable def n_11_12 : e_Y := u_getf 1 1 (u_old (o_getf (e_f1 1 1) 15) n_11_15) n_11_15
theorem t_11_12 : e_Sn 11 12 (e_un n_11_12) := u_getfT (s_getf (C := er_1) (T := et_1) (N := 4) (ref := "Plateroomprinter$Code") (index := 15) (ci := 1) (k := 1) hq_11 ho_11 ⟨rfl, by decide, ei_1, r_m_1_62, .inl rfl⟩ (by decide +kernel) rfl : e_Sn 11 12 (o_getf (e_f1 1 1) 15)) t_11_15
noncomputable def n_11_11 : e_Y := u_ld f_okA f_l0 n_11_12
theorem t_11_11 : e_Sn 11 11 (e_un n_11_11) := u_ldAT f_l0_eq (s_aload (i := .aload_n 0) (len := 1) hq_11 (by decide +kernel) rfl (.inr ⟨0, rfl, rfl, rfl⟩) : e_Sn 11 11 (o_load e_okR 0 12)) t_11_12
noncomputable def n_11_8 : e_Y := u_jmp y_ge (u_old2 (o_clt 11 20) 11 n_11_11 (u_at 20)) n_11_11 (u_at 20)
theorem t_11_8 : e_Sn 11 8 (e_un n_11_8) := u_cltT rfl (s_cge (off := (12)) hq_11 (by decide +kernel) rfl rfl : e_Sn 11 8 (o_clt 11 20)) t_11_11 u_atT
noncomputable def n_11_5 : e_Y := u_push (.inl 2147485648) n_11_8
theorem t_11_5 : e_Sn 11 5 (e_un n_11_5) := u_pushT (s_sipush (n := (2000)) hq_11 (by decide +kernel) rfl ⟨by decide +kernel, by decide +kernel⟩ : e_Sn 11 5 (o_push (.inl 2147485648) 8)) t_11_8
noncomputable def n_11_4 : e_Y := u_ld f_okI f_l1 n_11_5
theorem t_11_4 : e_Sn 11 4 (e_un n_11_4) := u_ldIT f_l1_eq (s_iload (i := .iload_n 1) (len := 1) hq_11 (by decide +kernel) rfl (.inr ⟨1, rfl, rfl, rfl⟩) : e_Sn 11 4 (o_load e_okI 1 5)) t_11_5
noncomputable def n_11_1 : e_Y := u_if y_ge0 (u_old2 (o_iflt 20 4) 20 (u_at 20) n_11_4) (u_at 20) n_11_4
theorem t_11_1 : e_Sn 11 1 (e_un n_11_1) := u_ifltT rfl (s_iflt (off := (19)) hq_11 (by decide +kernel) rfl rfl : e_Sn 11 1 (o_iflt 20 4)) u_atT t_11_4
noncomputable def n_11_0 : e_Y := u_ld f_okI f_l1 n_11_1
theorem t_11_0 : e_Sn 11 0 (e_un n_11_0) := u_ldIT f_l1_eq (s_iload (i := .iload_n 1) (len := 1) hq_11 (by decide +kernel) rfl (.inr ⟨1, rfl, rfl, rfl⟩) : e_Sn 11 0 (o_load e_okI 1 1)) t_11_1
noncomputable def e_tb_11 : e_X := (e_lf 0 (e_un n_11_0))
theorem e_tk_11 : e_Tb 11 e_tb_11 := (e_lfT t_11_0)
theorem hq_19 : (e_ml[19]?).map (·.2.1) = some prog_3_method_18_code := Eq.trans (congrArg (Option.map (fun e => e.2.1)) hy_19) rfl
theorem ho_19 : (e_ml[19]?).map (·.1.cls) = some "Plateroomprinter$Engine" := Eq.trans (congrArg (Option.map (fun e => e.1.cls)) hy_19) rfl
theorem hr_19 : (e_ml[19]?).map (·.2.2.2) = some (some .int) := Eq.trans (congrArg (Option.map (fun e => e.2.2.2)) hy_19) rfl
noncomputable def n_19_143 : e_Y := u_retI
theorem t_19_143 : e_Sn 19 143 (e_un n_19_143) := u_retIT (s_iret hq_19 hr_19 (by decide +kernel) : e_Sn 19 143 (o_ret e_okI))
noncomputable def n_19_142 : e_Y := u_push (.inl 2147483648) n_19_143
theorem t_19_142 : e_Sn 19 142 (e_un n_19_142) := u_pushT (s_iconst (n := (0)) hq_19 (by decide +kernel) rfl ⟨by decide +kernel, by decide +kernel⟩ : e_Sn 19 142 (o_push (.inl 2147483648) 143)) t_19_143
noncomputable def n_19_124 : e_Y := u_jmp y_ne (u_old2 (o_ceq 127 142) 127 (u_at 127) n_19_142) (u_at 127) n_19_142
theorem t_19_124 : e_Sn 19 124 (e_un n_19_124) := u_ceqT rfl (s_cne (off := (18)) hq_19 (by decide +kernel) rfl rfl : e_Sn 19 124 (o_ceq 127 142)) u_atT t_19_142
noncomputable def n_19_123 : e_Y := u_push (.inl 2147483650) n_19_124
theorem t_19_123 : e_Sn 19 123 (e_un n_19_123) := u_pushT (s_iconst (n := (2)) hq_19 (by decide +kernel) rfl ⟨by decide +kernel, by decide +kernel⟩ : e_Sn 19 123 (o_push (.inl 2147483650) 124)) t_19_124
noncomputable def n_19_122 : e_Y := u_ld f_okI f_l1 n_19_123
theorem t_19_122 : e_Sn 19 122 (e_un n_19_122) := u_ldIT f_l1_eq (s_iload (i := .iload_n 1) (len := 1) hq_19 (by decide +kernel) rfl (.inr ⟨1, rfl, rfl, rfl⟩) : e_Sn 19 122 (o_load e_okI 1 123)) t_19_123
noncomputable def n_19_119 : e_Y := u_putf 2 14 f_okI (u_old (o_putf (e_f1 2 14) e_okI 122) n_19_122) n_19_122
theorem t_19_119 : e_Sn 19 119 (e_un n_19_119) := u_putfT (fun _ => f_okI_eq) (s_putf (ty0 := ey_2) (ok := e_okI) (C := er_2) (T := et_2) (N := 19) (ref := "Plateroomprinter$Engine") (index := 57) (ci := 2) (k := 14) hq_19 ho_19 ⟨rfl, by decide, ei_2, r_m_3_14, .inl rfl⟩ eo_2 en_2 e_oksI (.inl rfl) (by decide +kernel) rfl : e_Sn 19 119 (o_putf (e_f1 2 14) e_okI 122)) t_19_122
noncomputable def n_19_118 : e_Y := u_bin a_iadd (u_old (o_iadd 119) n_19_119) n_19_119
theorem t_19_118 : e_Sn 19 118 (e_un n_19_118) := u_iaddT (s_iadd hq_19 (by decide +kernel) rfl : e_Sn 19 118 (o_iadd 119)) t_19_119
noncomputable def n_19_117 : e_Y := u_push (.inl 2147483649) n_19_118
theorem t_19_117 : e_Sn 19 117 (e_un n_19_117) := u_pushT (s_iconst (n := (1)) hq_19 (by decide +kernel) rfl ⟨by decide +kernel, by decide +kernel⟩ : e_Sn 19 117 (o_push (.inl 2147483649) 118)) t_19_118
noncomputable def n_19_114 : e_Y := u_getf 2 14 (u_old (o_getf (e_f1 2 14) 117) n_19_117) n_19_117
theorem t_19_114 : e_Sn 19 114 (e_un n_19_114) := u_getfT (s_getf (C := er_2) (T := et_2) (N := 19) (ref := "Plateroomprinter$Engine") (index := 57) (ci := 2) (k := 14) hq_19 ho_19 ⟨rfl, by decide, ei_2, r_m_3_14, .inl rfl⟩ (by decide +kernel) rfl : e_Sn 19 114 (o_getf (e_f1 2 14) 117)) t_19_117
noncomputable def n_19_113 : e_Y := u_old (o_dup 114) n_19_114
theorem t_19_113 : e_Sn 19 113 (e_un n_19_113) := u_oldT (s_dup hq_19 (by decide +kernel) rfl : e_Sn 19 113 (o_dup 114)) t_19_114 e_cg_dup
noncomputable def n_19_112 : e_Y := u_ld f_okA f_l0 n_19_113
theorem t_19_112 : e_Sn 19 112 (e_un n_19_112) := u_ldAT f_l0_eq (s_aload (i := .aload_n 0) (len := 1) hq_19 (by decide +kernel) rfl (.inr ⟨0, rfl, rfl, rfl⟩) : e_Sn 19 112 (o_load e_okR 0 113)) t_19_113
noncomputable def n_19_111 : e_Y := u_ast 0 f_okI (u_old (o_ast 0 e_okI 112) n_19_112) n_19_112
theorem t_19_111 : e_Sn 19 111 (e_un n_19_111) := u_astT (fun _ => f_okI_eq) (s_iast hq_19 (by decide +kernel) rfl : e_Sn 19 111 (o_ast 0 e_okI 112)) t_19_112
noncomputable def n_19_109 : e_Y := u_ld f_okI f_l4 n_19_111
theorem t_19_109 : e_Sn 19 109 (e_un n_19_109) := u_ldIT f_l4_eq (s_iload (i := .iload 4) (len := 2) hq_19 (by decide +kernel) rfl (.inl ⟨rfl, rfl⟩) : e_Sn 19 109 (o_load e_okI 4 111)) t_19_111
noncomputable def n_19_107 : e_Y := u_ld f_okI f_l6 n_19_109
theorem t_19_107 : e_Sn 19 107 (e_un n_19_107) := u_ldIT f_l6_eq (s_iload (i := .iload 6) (len := 2) hq_19 (by decide +kernel) rfl (.inl ⟨rfl, rfl⟩) : e_Sn 19 107 (o_load e_okI 6 109)) t_19_109
noncomputable def n_19_104 : e_Y := u_getf 2 12 (u_old (o_getf (e_f1 2 12) 107) n_19_107) n_19_107
theorem t_19_104 : e_Sn 19 104 (e_un n_19_104) := u_getfT (s_getf (C := er_2) (T := et_2) (N := 19) (ref := "Plateroomprinter$Engine") (index := 42) (ci := 2) (k := 12) hq_19 ho_19 ⟨rfl, by decide, ei_2, r_m_3_12, .inl rfl⟩ (by decide +kernel) rfl : e_Sn 19 104 (o_getf (e_f1 2 12) 107)) t_19_107
noncomputable def n_19_103 : e_Y := u_ld f_okA f_l0 n_19_104
theorem t_19_103 : e_Sn 19 103 (e_un n_19_103) := u_ldAT f_l0_eq (s_aload (i := .aload_n 0) (len := 1) hq_19 (by decide +kernel) rfl (.inr ⟨0, rfl, rfl, rfl⟩) : e_Sn 19 103 (o_load e_okR 0 104)) t_19_104
noncomputable def n_19_102 : e_Y := u_ast 0 f_okI (u_old (o_ast 0 e_okI 103) n_19_103) n_19_103
theorem t_19_102 : e_Sn 19 102 (e_un n_19_102) := u_astT (fun _ => f_okI_eq) (s_iast hq_19 (by decide +kernel) rfl : e_Sn 19 102 (o_ast 0 e_okI 103)) t_19_103
noncomputable def n_19_101 : e_Y := u_ld f_okI f_l3 n_19_102
theorem t_19_101 : e_Sn 19 101 (e_un n_19_101) := u_ldIT f_l3_eq (s_iload (i := .iload_n 3) (len := 1) hq_19 (by decide +kernel) rfl (.inr ⟨3, rfl, rfl, rfl⟩) : e_Sn 19 101 (o_load e_okI 3 102)) t_19_102
noncomputable def n_19_99 : e_Y := u_ld f_okI f_l6 n_19_101
theorem t_19_99 : e_Sn 19 99 (e_un n_19_99) := u_ldIT f_l6_eq (s_iload (i := .iload 6) (len := 2) hq_19 (by decide +kernel) rfl (.inl ⟨rfl, rfl⟩) : e_Sn 19 99 (o_load e_okI 6 101)) t_19_101
noncomputable def n_19_96 : e_Y := u_getf 2 11 (u_old (o_getf (e_f1 2 11) 99) n_19_99) n_19_99
theorem t_19_96 : e_Sn 19 96 (e_un n_19_96) := u_getfT (s_getf (C := er_2) (T := et_2) (N := 19) (ref := "Plateroomprinter$Engine") (index := 39) (ci := 2) (k := 11) hq_19 ho_19 ⟨rfl, by decide, ei_2, r_m_3_11, .inl rfl⟩ (by decide +kernel) rfl : e_Sn 19 96 (o_getf (e_f1 2 11) 99)) t_19_99
noncomputable def n_19_95 : e_Y := u_ld f_okA f_l0 n_19_96
theorem t_19_95 : e_Sn 19 95 (e_un n_19_95) := u_ldAT f_l0_eq (s_aload (i := .aload_n 0) (len := 1) hq_19 (by decide +kernel) rfl (.inr ⟨0, rfl, rfl, rfl⟩) : e_Sn 19 95 (o_load e_okR 0 96)) t_19_96
noncomputable def n_19_94 : e_Y := u_ast 0 f_okI (u_old (o_ast 0 e_okI 95) n_19_95) n_19_95
theorem t_19_94 : e_Sn 19 94 (e_un n_19_94) := u_astT (fun _ => f_okI_eq) (s_iast hq_19 (by decide +kernel) rfl : e_Sn 19 94 (o_ast 0 e_okI 95)) t_19_95
noncomputable def n_19_93 : e_Y := u_ld f_okI f_l2 n_19_94
theorem t_19_93 : e_Sn 19 93 (e_un n_19_93) := u_ldIT f_l2_eq (s_iload (i := .iload_n 2) (len := 1) hq_19 (by decide +kernel) rfl (.inr ⟨2, rfl, rfl, rfl⟩) : e_Sn 19 93 (o_load e_okI 2 94)) t_19_94
noncomputable def n_19_91 : e_Y := u_ld f_okI f_l6 n_19_93
theorem t_19_91 : e_Sn 19 91 (e_un n_19_91) := u_ldIT f_l6_eq (s_iload (i := .iload 6) (len := 2) hq_19 (by decide +kernel) rfl (.inl ⟨rfl, rfl⟩) : e_Sn 19 91 (o_load e_okI 6 93)) t_19_93
noncomputable def n_19_88 : e_Y := u_getf 2 10 (u_old (o_getf (e_f1 2 10) 91) n_19_91) n_19_91
theorem t_19_88 : e_Sn 19 88 (e_un n_19_88) := u_getfT (s_getf (C := er_2) (T := et_2) (N := 19) (ref := "Plateroomprinter$Engine") (index := 36) (ci := 2) (k := 10) hq_19 ho_19 ⟨rfl, by decide, ei_2, r_m_3_10, .inl rfl⟩ (by decide +kernel) rfl : e_Sn 19 88 (o_getf (e_f1 2 10) 91)) t_19_91
noncomputable def n_19_87 : e_Y := u_ld f_okA f_l0 n_19_88
theorem t_19_87 : e_Sn 19 87 (e_un n_19_87) := u_ldAT f_l0_eq (s_aload (i := .aload_n 0) (len := 1) hq_19 (by decide +kernel) rfl (.inr ⟨0, rfl, rfl, rfl⟩) : e_Sn 19 87 (o_load e_okR 0 88)) t_19_88
noncomputable def n_19_86 : e_Y := u_ast 0 f_okI (u_old (o_ast 0 e_okI 87) n_19_87) n_19_87
theorem t_19_86 : e_Sn 19 86 (e_un n_19_86) := u_astT (fun _ => f_okI_eq) (s_iast hq_19 (by decide +kernel) rfl : e_Sn 19 86 (o_ast 0 e_okI 87)) t_19_87
noncomputable def n_19_85 : e_Y := u_ld f_okI f_l1 n_19_86
theorem t_19_85 : e_Sn 19 85 (e_un n_19_85) := u_ldIT f_l1_eq (s_iload (i := .iload_n 1) (len := 1) hq_19 (by decide +kernel) rfl (.inr ⟨1, rfl, rfl, rfl⟩) : e_Sn 19 85 (o_load e_okI 1 86)) t_19_86
noncomputable def n_19_83 : e_Y := u_ld f_okI f_l6 n_19_85
theorem t_19_83 : e_Sn 19 83 (e_un n_19_83) := u_ldIT f_l6_eq (s_iload (i := .iload 6) (len := 2) hq_19 (by decide +kernel) rfl (.inl ⟨rfl, rfl⟩) : e_Sn 19 83 (o_load e_okI 6 85)) t_19_85
noncomputable def n_19_80 : e_Y := u_getf 2 9 (u_old (o_getf (e_f1 2 9) 83) n_19_83) n_19_83
theorem t_19_80 : e_Sn 19 80 (e_un n_19_80) := u_getfT (s_getf (C := er_2) (T := et_2) (N := 19) (ref := "Plateroomprinter$Engine") (index := 33) (ci := 2) (k := 9) hq_19 ho_19 ⟨rfl, by decide, ei_2, r_m_3_9, .inl rfl⟩ (by decide +kernel) rfl : e_Sn 19 80 (o_getf (e_f1 2 9) 83)) t_19_83
noncomputable def n_19_79 : e_Y := u_ld f_okA f_l0 n_19_80
theorem t_19_79 : e_Sn 19 79 (e_un n_19_79) := u_ldAT f_l0_eq (s_aload (i := .aload_n 0) (len := 1) hq_19 (by decide +kernel) rfl (.inr ⟨0, rfl, rfl, rfl⟩) : e_Sn 19 79 (o_load e_okR 0 80)) t_19_80
noncomputable def n_19_73 : e_Y := u_jmp y_ge (u_old2 (o_clt 79 76) 79 n_19_79 (u_at 76)) n_19_79 (u_at 76)
theorem t_19_73 : e_Sn 19 73 (e_un n_19_73) := u_cltT rfl (s_clt (off := (6)) hq_19 (by decide +kernel) rfl rfl : e_Sn 19 73 (o_clt 79 76)) t_19_79 u_atT
noncomputable def n_19_71 : e_Y := u_push (.inl 2147483660) n_19_73
theorem t_19_71 : e_Sn 19 71 (e_un n_19_71) := u_pushT (s_bipush (n := (12)) hq_19 (by decide +kernel) rfl ⟨by decide +kernel, by decide +kernel⟩ : e_Sn 19 71 (o_push (.inl 2147483660) 73)) t_19_73
noncomputable def n_19_69 : e_Y := u_ld f_okI f_l6 n_19_71
theorem t_19_69 : e_Sn 19 69 (e_un n_19_69) := u_ldIT f_l6_eq (s_iload (i := .iload 6) (len := 2) hq_19 (by decide +kernel) rfl (.inl ⟨rfl, rfl⟩) : e_Sn 19 69 (o_load e_okI 6 71)) t_19_71
noncomputable def n_19_66 : e_Y := u_if y_ge0 (u_old2 (o_iflt 76 69) 76 (u_at 76) n_19_69) (u_at 76) n_19_69
theorem t_19_66 : e_Sn 19 66 (e_un n_19_66) := u_ifltT rfl (s_iflt (off := (10)) hq_19 (by decide +kernel) rfl rfl : e_Sn 19 66 (o_iflt 76 69)) u_atT t_19_69
noncomputable def n_19_64 : e_Y := u_ld f_okI f_l6 n_19_66
theorem t_19_64 : e_Sn 19 64 (e_un n_19_64) := u_ldIT f_l6_eq (s_iload (i := .iload 6) (len := 2) hq_19 (by decide +kernel) rfl (.inl ⟨rfl, rfl⟩) : e_Sn 19 64 (o_load e_okI 6 66)) t_19_66
noncomputable def n_19_61 : e_Y := u_if y_ne0 (u_old2 (o_ifeq 64 76) 64 n_19_64 (u_at 76)) n_19_64 (u_at 76)
theorem t_19_61 : e_Sn 19 61 (e_un n_19_61) := u_ifeqT rfl (s_ifne (off := (15)) hq_19 (by decide +kernel) rfl rfl : e_Sn 19 61 (o_ifeq 64 76)) t_19_64 u_atT
noncomputable def n_19_59 : e_Y := u_ld f_okI f_l7 n_19_61
theorem t_19_59 : e_Sn 19 59 (e_un n_19_59) := u_ldIT f_l7_eq (s_iload (i := .iload 7) (len := 2) hq_19 (by decide +kernel) rfl (.inl ⟨rfl, rfl⟩) : e_Sn 19 59 (o_load e_okI 7 61)) t_19_61
noncomputable def n_19_57 : e_Y := u_st f_okI f_s7 n_19_59
theorem t_19_57 : e_Sn 19 57 (e_un n_19_57) := u_stIT (fun _ _ _ => f_s7_eq) (s_istore (i := .istore 7) (len := 2) hq_19 (by decide +kernel) rfl (.inl ⟨rfl, rfl⟩) : e_Sn 19 57 (o_store e_okI 7 59)) t_19_59
noncomputable def n_19_54 : e_Y := u_callV 2 17 3 22 3 n_17_0 n_19_57
theorem t_19_54 : e_Sn 19 54 (e_un n_19_54) := u_callVT rfl (s_callV (ci := 2) (C := er_2) (T := et_2) (N := 19) (index := 71) hq_19 ho_19 hy_17 hp_17 hc_17 hi_17 hd_17 r_m_3_167 hs_17 (List.mem_of_getElem? (i := 0) (by decide +kernel)) rfl (by decide +kernel) rfl : e_Sn 19 54 (o_callV (e_s1 2 17 3) 3 57)) t_17_0 t_19_57
noncomputable def n_19_53 : e_Y := u_ald 0 (u_old (o_ald e_fcs 54) n_19_54) n_19_54
theorem t_19_53 : e_Sn 19 53 (e_un n_19_53) := u_aldT (s_iald hq_19 (by decide +kernel) rfl : e_Sn 19 53 (o_ald e_fcs 54)) t_19_54
noncomputable def n_19_51 : e_Y := u_ld f_okI f_l5 n_19_53
theorem t_19_51 : e_Sn 19 51 (e_un n_19_51) := u_ldIT f_l5_eq (s_iload (i := .iload 5) (len := 2) hq_19 (by decide +kernel) rfl (.inl ⟨rfl, rfl⟩) : e_Sn 19 51 (o_load e_okI 5 53)) t_19_53
noncomputable def n_19_48 : e_Y := u_getf 2 4 (u_old (o_getf (e_f1 2 4) 51) n_19_51) n_19_51
theorem t_19_48 : e_Sn 19 48 (e_un n_19_48) := u_getfT (s_getf (C := er_2) (T := et_2) (N := 19) (ref := "Plateroomprinter$Engine") (index := 18) (ci := 2) (k := 4) hq_19 ho_19 ⟨rfl, by decide, ei_2, r_m_3_4, .inl rfl⟩ (by decide +kernel) rfl : e_Sn 19 48 (o_getf (e_f1 2 4) 51)) t_19_51
noncomputable def n_19_47 : e_Y := u_ld f_okA f_l0 n_19_48
theorem t_19_47 : e_Sn 19 47 (e_un n_19_47) := u_ldAT f_l0_eq (s_aload (i := .aload_n 0) (len := 1) hq_19 (by decide +kernel) rfl (.inr ⟨0, rfl, rfl, rfl⟩) : e_Sn 19 47 (o_load e_okR 0 48)) t_19_48
noncomputable def n_19_46 : e_Y := u_ald 0 (u_old (o_ald e_fcs 47) n_19_47) n_19_47
theorem t_19_46 : e_Sn 19 46 (e_un n_19_46) := u_aldT (s_iald hq_19 (by decide +kernel) rfl : e_Sn 19 46 (o_ald e_fcs 47)) t_19_47
noncomputable def n_19_44 : e_Y := u_ld f_okI f_l5 n_19_46
theorem t_19_44 : e_Sn 19 44 (e_un n_19_44) := u_ldIT f_l5_eq (s_iload (i := .iload 5) (len := 2) hq_19 (by decide +kernel) rfl (.inl ⟨rfl, rfl⟩) : e_Sn 19 44 (o_load e_okI 5 46)) t_19_46
noncomputable def n_19_41 : e_Y := u_getf 2 3 (u_old (o_getf (e_f1 2 3) 44) n_19_44) n_19_44
theorem t_19_41 : e_Sn 19 41 (e_un n_19_41) := u_getfT (s_getf (C := er_2) (T := et_2) (N := 19) (ref := "Plateroomprinter$Engine") (index := 15) (ci := 2) (k := 3) hq_19 ho_19 ⟨rfl, by decide, ei_2, r_m_3_2, .inl rfl⟩ (by decide +kernel) rfl : e_Sn 19 41 (o_getf (e_f1 2 3) 44)) t_19_44
noncomputable def n_19_40 : e_Y := u_ld f_okA f_l0 n_19_41
theorem t_19_40 : e_Sn 19 40 (e_un n_19_40) := u_ldAT f_l0_eq (s_aload (i := .aload_n 0) (len := 1) hq_19 (by decide +kernel) rfl (.inr ⟨0, rfl, rfl, rfl⟩) : e_Sn 19 40 (o_load e_okR 0 41)) t_19_41
noncomputable def n_19_39 : e_Y := u_ld f_okA f_l0 n_19_40
theorem t_19_39 : e_Sn 19 39 (e_un n_19_39) := u_ldAT f_l0_eq (s_aload (i := .aload_n 0) (len := 1) hq_19 (by decide +kernel) rfl (.inr ⟨0, rfl, rfl, rfl⟩) : e_Sn 19 39 (o_load e_okR 0 40)) t_19_40
noncomputable def n_19_37 : e_Y := u_st f_okI f_s6 n_19_39
theorem t_19_37 : e_Sn 19 37 (e_un n_19_37) := u_stIT (fun _ _ _ => f_s6_eq) (s_istore (i := .istore 6) (len := 2) hq_19 (by decide +kernel) rfl (.inl ⟨rfl, rfl⟩) : e_Sn 19 37 (o_store e_okI 6 39)) t_19_39
noncomputable def n_19_34 : e_Y := u_getf 2 13 (u_old (o_getf (e_f1 2 13) 37) n_19_37) n_19_37
theorem t_19_34 : e_Sn 19 34 (e_un n_19_34) := u_getfT (s_getf (C := er_2) (T := et_2) (N := 19) (ref := "Plateroomprinter$Engine") (index := 53) (ci := 2) (k := 13) hq_19 ho_19 ⟨rfl, by decide, ei_2, r_m_3_13, .inl rfl⟩ (by decide +kernel) rfl : e_Sn 19 34 (o_getf (e_f1 2 13) 37)) t_19_37
noncomputable def n_19_33 : e_Y := u_ld f_okA f_l0 n_19_34
theorem t_19_33 : e_Sn 19 33 (e_un n_19_33) := u_ldAT f_l0_eq (s_aload (i := .aload_n 0) (len := 1) hq_19 (by decide +kernel) rfl (.inr ⟨0, rfl, rfl, rfl⟩) : e_Sn 19 33 (o_load e_okR 0 34)) t_19_34
noncomputable def n_19_28 : e_Y := u_jmp y_ge (u_old2 (o_clt 33 31) 33 n_19_33 (u_at 31)) n_19_33 (u_at 31)
theorem t_19_28 : e_Sn 19 28 (e_un n_19_28) := u_cltT rfl (s_clt (off := (5)) hq_19 (by decide +kernel) rfl rfl : e_Sn 19 28 (o_clt 33 31)) t_19_33 u_atT
noncomputable def n_19_26 : e_Y := u_push (.inl 2147483654) n_19_28
theorem t_19_26 : e_Sn 19 26 (e_un n_19_26) := u_pushT (s_bipush (n := (6)) hq_19 (by decide +kernel) rfl ⟨by decide +kernel, by decide +kernel⟩ : e_Sn 19 26 (o_push (.inl 2147483654) 28)) t_19_28
noncomputable def n_19_24 : e_Y := u_ld f_okI f_l5 n_19_26
theorem t_19_24 : e_Sn 19 24 (e_un n_19_24) := u_ldIT f_l5_eq (s_iload (i := .iload 5) (len := 2) hq_19 (by decide +kernel) rfl (.inl ⟨rfl, rfl⟩) : e_Sn 19 24 (o_load e_okI 5 26)) t_19_26
noncomputable def n_19_21 : e_Y := u_if y_ge0 (u_old2 (o_iflt 31 24) 31 (u_at 31) n_19_24) (u_at 31) n_19_24
theorem t_19_21 : e_Sn 19 21 (e_un n_19_21) := u_ifltT rfl (s_iflt (off := (10)) hq_19 (by decide +kernel) rfl rfl : e_Sn 19 21 (o_iflt 31 24)) u_atT t_19_24
noncomputable def n_19_19 : e_Y := u_ld f_okI f_l5 n_19_21
theorem t_19_19 : e_Sn 19 19 (e_un n_19_19) := u_ldIT f_l5_eq (s_iload (i := .iload 5) (len := 2) hq_19 (by decide +kernel) rfl (.inl ⟨rfl, rfl⟩) : e_Sn 19 19 (o_load e_okI 5 21)) t_19_21
noncomputable def n_19_7 : e_Y := u_jmp y_le (u_old2 (o_cgt 10 19) 10 (u_at 10) n_19_19) (u_at 10) n_19_19
theorem t_19_7 : e_Sn 19 7 (e_un n_19_7) := u_cgtT rfl (s_cle (off := (12)) hq_19 (by decide +kernel) rfl rfl : e_Sn 19 7 (o_cgt 10 19)) u_atT t_19_19
noncomputable def n_19_5 : e_Y := u_ld f_okI f_l4 n_19_7
theorem t_19_5 : e_Sn 19 5 (e_un n_19_5) := u_ldIT f_l4_eq (s_iload (i := .iload 4) (len := 2) hq_19 (by decide +kernel) rfl (.inl ⟨rfl, rfl⟩) : e_Sn 19 5 (o_load e_okI 4 7)) t_19_7
noncomputable def n_19_4 : e_Y := u_ld f_okI f_l2 n_19_5
theorem t_19_4 : e_Sn 19 4 (e_un n_19_4) := u_ldIT f_l2_eq (s_iload (i := .iload_n 2) (len := 1) hq_19 (by decide +kernel) rfl (.inr ⟨2, rfl, rfl, rfl⟩) : e_Sn 19 4 (o_load e_okI 2 5)) t_19_5
noncomputable def n_19_1 : e_Y := u_if y_le0 (u_old2 (o_ifgt 4 13) 4 n_19_4 (u_at 13)) n_19_4 (u_at 13)
theorem t_19_1 : e_Sn 19 1 (e_un n_19_1) := u_ifgtT rfl (s_ifle (off := (12)) hq_19 (by decide +kernel) rfl rfl : e_Sn 19 1 (o_ifgt 4 13)) t_19_4 u_atT
noncomputable def n_19_0 : e_Y := u_ld f_okI f_l3 n_19_1
theorem t_19_0 : e_Sn 19 0 (e_un n_19_0) := u_ldIT f_l3_eq (s_iload (i := .iload_n 3) (len := 1) hq_19 (by decide +kernel) rfl (.inr ⟨3, rfl, rfl, rfl⟩) : e_Sn 19 0 (o_load e_okI 3 1)) t_19_1
noncomputable def e_tb_19 : e_X := (e_lf 0 (e_un n_19_0))
theorem e_tk_19 : e_Tb 19 e_tb_19 := (e_lfT t_19_0)
theorem hq_15 : (e_ml[15]?).map (·.2.1) = some prog_3_method_15_code := Eq.trans (congrArg (Option.map (fun e => e.2.1)) hy_15) rfl
theorem ho_15 : (e_ml[15]?).map (·.1.cls) = some "Plateroomprinter$Engine" := Eq.trans (congrArg (Option.map (fun e => e.1.cls)) hy_15) rfl
theorem hr_15 : (e_ml[15]?).map (·.2.2.2) = some (some .int) := Eq.trans (congrArg (Option.map (fun e => e.2.2.2)) hy_15) rfl
noncomputable def n_15_285 : e_Y := u_retI
theorem t_15_285 : e_Sn 15 285 (e_un n_15_285) := u_retIT (s_iret hq_15 hr_15 (by decide +kernel) : e_Sn 15 285 (o_ret e_okI))
noncomputable def n_15_282 : e_Y := u_callV 2 19 8 27 6 n_19_0 n_15_285
theorem t_15_282 : e_Sn 15 282 (e_un n_15_282) := u_callVT rfl (s_callV (ci := 2) (C := er_2) (T := et_2) (N := 19) (index := 180) hq_15 ho_15 hy_19 hp_19 hc_19 hi_19 hd_19 (r_k4 (List.mem_of_getElem? (i := 24) (by decide +kernel))) hs_19 (List.mem_of_getElem? (i := 7) (by decide +kernel)) rfl (by decide +kernel) rfl : e_Sn 15 282 (o_callV (e_s1 2 19 8) 6 285)) t_19_0 t_15_285
noncomputable def n_15_281 : e_Y := u_push (.inl 2147483649) n_15_282
theorem t_15_281 : e_Sn 15 281 (e_un n_15_281) := u_pushT (s_iconst (n := (1)) hq_15 (by decide +kernel) rfl ⟨by decide +kernel, by decide +kernel⟩ : e_Sn 15 281 (o_push (.inl 2147483649) 282)) t_15_282
noncomputable def n_15_280 : e_Y := u_ald 0 (u_old (o_ald e_fcs 281) n_15_281) n_15_281
theorem t_15_280 : e_Sn 15 280 (e_un n_15_280) := u_aldT (s_iald hq_15 (by decide +kernel) rfl : e_Sn 15 280 (o_ald e_fcs 281)) t_15_281
noncomputable def n_15_279 : e_Y := u_push (.inl 2147483648) n_15_280
theorem t_15_279 : e_Sn 15 279 (e_un n_15_279) := u_pushT (s_iconst (n := (0)) hq_15 (by decide +kernel) rfl ⟨by decide +kernel, by decide +kernel⟩ : e_Sn 15 279 (o_push (.inl 2147483648) 280)) t_15_280
noncomputable def n_15_276 : e_Y := u_getf 2 3 (u_old (o_getf (e_f1 2 3) 279) n_15_279) n_15_279
theorem t_15_276 : e_Sn 15 276 (e_un n_15_276) := u_getfT (s_getf (C := er_2) (T := et_2) (N := 19) (ref := "Plateroomprinter$Engine") (index := 15) (ci := 2) (k := 3) hq_15 ho_15 ⟨rfl, by decide, ei_2, r_m_3_2, .inl rfl⟩ (by decide +kernel) rfl : e_Sn 15 276 (o_getf (e_f1 2 3) 279)) t_15_279
noncomputable def n_15_275 : e_Y := u_ld f_okA f_l0 n_15_276
theorem t_15_275 : e_Sn 15 275 (e_un n_15_275) := u_ldAT f_l0_eq (s_aload (i := .aload_n 0) (len := 1) hq_15 (by decide +kernel) rfl (.inr ⟨0, rfl, rfl, rfl⟩) : e_Sn 15 275 (o_load e_okR 0 276)) t_15_276
noncomputable def n_15_274 : e_Y := u_push (.inl 2147483649) n_15_275
theorem t_15_274 : e_Sn 15 274 (e_un n_15_274) := u_pushT (s_iconst (n := (1)) hq_15 (by decide +kernel) rfl ⟨by decide +kernel, by decide +kernel⟩ : e_Sn 15 274 (o_push (.inl 2147483649) 275)) t_15_275
noncomputable def n_15_273 : e_Y := u_push (.inl 2147483649) n_15_274
theorem t_15_273 : e_Sn 15 273 (e_un n_15_273) := u_pushT (s_iconst (n := (1)) hq_15 (by decide +kernel) rfl ⟨by decide +kernel, by decide +kernel⟩ : e_Sn 15 273 (o_push (.inl 2147483649) 274)) t_15_274
noncomputable def n_15_272 : e_Y := u_push (.inl 2147483649) n_15_273
theorem t_15_272 : e_Sn 15 272 (e_un n_15_272) := u_pushT (s_iconst (n := (1)) hq_15 (by decide +kernel) rfl ⟨by decide +kernel, by decide +kernel⟩ : e_Sn 15 272 (o_push (.inl 2147483649) 273)) t_15_273
noncomputable def n_15_271 : e_Y := u_ld f_okA f_l0 n_15_272
theorem t_15_271 : e_Sn 15 271 (e_un n_15_271) := u_ldAT f_l0_eq (s_aload (i := .aload_n 0) (len := 1) hq_15 (by decide +kernel) rfl (.inr ⟨0, rfl, rfl, rfl⟩) : e_Sn 15 271 (o_load e_okR 0 272)) t_15_272
noncomputable def n_15_264 : e_Y := u_jmp y_le (u_old2 (o_cgt 267 271) 267 (u_at 267) n_15_271) (u_at 267) n_15_271
theorem t_15_264 : e_Sn 15 264 (e_un n_15_264) := u_cgtT rfl (s_cle (off := (7)) hq_15 (by decide +kernel) rfl rfl : e_Sn 15 264 (o_cgt 267 271)) u_atT t_15_271
noncomputable def n_15_262 : e_Y := u_push (.inl 2147483747) n_15_264
theorem t_15_262 : e_Sn 15 262 (e_un n_15_262) := u_pushT (s_bipush (n := (99)) hq_15 (by decide +kernel) rfl ⟨by decide +kernel, by decide +kernel⟩ : e_Sn 15 262 (o_push (.inl 2147483747) 264)) t_15_264
noncomputable def n_15_261 : e_Y := u_ald 0 (u_old (o_ald e_fcs 262) n_15_262) n_15_262
theorem t_15_261 : e_Sn 15 261 (e_un n_15_261) := u_aldT (s_iald hq_15 (by decide +kernel) rfl : e_Sn 15 261 (o_ald e_fcs 262)) t_15_262
noncomputable def n_15_260 : e_Y := u_push (.inl 2147483648) n_15_261
theorem t_15_260 : e_Sn 15 260 (e_un n_15_260) := u_pushT (s_iconst (n := (0)) hq_15 (by decide +kernel) rfl ⟨by decide +kernel, by decide +kernel⟩ : e_Sn 15 260 (o_push (.inl 2147483648) 261)) t_15_261
noncomputable def n_15_257 : e_Y := u_getf 2 3 (u_old (o_getf (e_f1 2 3) 260) n_15_260) n_15_260
theorem t_15_257 : e_Sn 15 257 (e_un n_15_257) := u_getfT (s_getf (C := er_2) (T := et_2) (N := 19) (ref := "Plateroomprinter$Engine") (index := 15) (ci := 2) (k := 3) hq_15 ho_15 ⟨rfl, by decide, ei_2, r_m_3_2, .inl rfl⟩ (by decide +kernel) rfl : e_Sn 15 257 (o_getf (e_f1 2 3) 260)) t_15_260
noncomputable def n_15_256 : e_Y := u_ld f_okA f_l0 n_15_257
theorem t_15_256 : e_Sn 15 256 (e_un n_15_256) := u_ldAT f_l0_eq (s_aload (i := .aload_n 0) (len := 1) hq_15 (by decide +kernel) rfl (.inr ⟨0, rfl, rfl, rfl⟩) : e_Sn 15 256 (o_load e_okR 0 257)) t_15_257
noncomputable def n_15_253 : e_Y := u_if y_ge0 (u_old2 (o_iflt 267 256) 267 (u_at 267) n_15_256) (u_at 267) n_15_256
theorem t_15_253 : e_Sn 15 253 (e_un n_15_253) := u_ifltT rfl (s_iflt (off := (14)) hq_15 (by decide +kernel) rfl rfl : e_Sn 15 253 (o_iflt 267 256)) u_atT t_15_256
noncomputable def n_15_252 : e_Y := u_ald 0 (u_old (o_ald e_fcs 253) n_15_253) n_15_253
theorem t_15_252 : e_Sn 15 252 (e_un n_15_252) := u_aldT (s_iald hq_15 (by decide +kernel) rfl : e_Sn 15 252 (o_ald e_fcs 253)) t_15_253
noncomputable def n_15_251 : e_Y := u_push (.inl 2147483648) n_15_252
theorem t_15_251 : e_Sn 15 251 (e_un n_15_251) := u_pushT (s_iconst (n := (0)) hq_15 (by decide +kernel) rfl ⟨by decide +kernel, by decide +kernel⟩ : e_Sn 15 251 (o_push (.inl 2147483648) 252)) t_15_252
noncomputable def n_15_248 : e_Y := u_getf 2 3 (u_old (o_getf (e_f1 2 3) 251) n_15_251) n_15_251
theorem t_15_248 : e_Sn 15 248 (e_un n_15_248) := u_getfT (s_getf (C := er_2) (T := et_2) (N := 19) (ref := "Plateroomprinter$Engine") (index := 15) (ci := 2) (k := 3) hq_15 ho_15 ⟨rfl, by decide, ei_2, r_m_3_2, .inl rfl⟩ (by decide +kernel) rfl : e_Sn 15 248 (o_getf (e_f1 2 3) 251)) t_15_251
noncomputable def n_15_247 : e_Y := u_ld f_okA f_l0 n_15_248
theorem t_15_247 : e_Sn 15 247 (e_un n_15_247) := u_ldAT f_l0_eq (s_aload (i := .aload_n 0) (len := 1) hq_15 (by decide +kernel) rfl (.inr ⟨0, rfl, rfl, rfl⟩) : e_Sn 15 247 (o_load e_okR 0 248)) t_15_248
noncomputable def n_15_1 : e_Y := u_tab (o_switch 2147483657 [60, 72, 74, 86, 97, 119, 155, 172, 202, 247, 286] 324)
theorem t_15_1 : e_Sn 15 1 (e_un n_15_1) := u_tabT (s_switch (dflt := (323)) (low := (9)) (hi := (19)) (offs := #[(59), (71), (73), (85), (96), (118), (154), (171), (201), (246), (285)]) (len := 59) hq_15 (by decide +kernel) rfl rfl rfl rfl : e_Sn 15 1 (o_switch 2147483657 [60, 72, 74, 86, 97, 119, 155, 172, 202, 247, 286] 324))
noncomputable def n_15_0 : e_Y := u_ld f_okI f_l1 n_15_1
theorem t_15_0 : e_Sn 15 0 (e_un n_15_0) := u_ldIT f_l1_eq (s_iload (i := .iload_n 1) (len := 1) hq_15 (by decide +kernel) rfl (.inr ⟨1, rfl, rfl, rfl⟩) : e_Sn 15 0 (o_load e_okI 1 1)) t_15_1
noncomputable def e_tb_15 : e_X := (e_br 247 (e_lf 0 (e_un n_15_0)) (e_lf 247 (e_un n_15_247)))
theorem e_tk_15 : e_Tb 15 e_tb_15 := (e_brT (e_lfT t_15_0) (e_lfT t_15_247))
theorem hq_32 : (e_ml[32]?).map (·.2.1) = some prog_5_method_7_code := Eq.trans (congrArg (Option.map (fun e => e.2.1)) hy_32) rfl
theorem ho_32 : (e_ml[32]?).map (·.1.cls) = some "Plateroomprinter$Items" := Eq.trans (congrArg (Option.map (fun e => e.1.cls)) hy_32) rfl
theorem hr_32 : (e_ml[32]?).map (·.2.2.2) = some (some .int) := Eq.trans (congrArg (Option.map (fun e => e.2.2.2)) hy_32) rfl
noncomputable def n_32_22 : e_Y := u_retI
theorem t_32_22 : e_Sn 32 22 (e_un n_32_22) := u_retIT (s_iret hq_32 hr_32 (by decide +kernel) : e_Sn 32 22 (o_ret e_okI))
noncomputable def n_32_18 : e_Y := n_32_22
theorem t_32_18 : e_Sn 32 18 (e_un n_32_18) := u_gotoT (s_goto (off := (4)) hq_32 (by decide +kernel) rfl : e_Sn 32 18 (o_goto 22)) t_32_22
noncomputable def n_32_17 : e_Y := u_ald 0 (u_old (o_ald e_fcs 18) n_32_18) n_32_18
theorem t_32_17 : e_Sn 32 17 (e_un n_32_17) := u_aldT (s_iald hq_32 (by decide +kernel) rfl : e_Sn 32 17 (o_ald e_fcs 18)) t_32_18
noncomputable def n_32_16 : e_Y := u_ld f_okI f_l1 n_32_17
theorem t_32_16 : e_Sn 32 16 (e_un n_32_16) := u_ldIT f_l1_eq (s_iload (i := .iload_n 1) (len := 1) hq_32 (by decide +kernel) rfl (.inr ⟨1, rfl, rfl, rfl⟩) : e_Sn 32 16 (o_load e_okI 1 17)) t_32_17
noncomputable def n_32_13 : e_Y := u_getf 4 3 (u_old (o_getf (e_f1 4 3) 16) n_32_16) n_32_16
theorem t_32_13 : e_Sn 32 13 (e_un n_32_13) := u_getfT (s_getf (C := er_4) (T := et_4) (N := 5) (ref := "Plateroomprinter$Items") (index := 28) (ci := 4) (k := 3) hq_32 ho_32 ⟨rfl, by decide, ei_4, r_m_1_97, .inl rfl⟩ (by decide +kernel) rfl : e_Sn 32 13 (o_getf (e_f1 4 3) 16)) t_32_16
noncomputable def n_32_12 : e_Y := u_ld f_okA f_l0 n_32_13
theorem t_32_12 : e_Sn 32 12 (e_un n_32_12) := u_ldAT f_l0_eq (s_aload (i := .aload_n 0) (len := 1) hq_32 (by decide +kernel) rfl (.inr ⟨0, rfl, rfl, rfl⟩) : e_Sn 32 12 (o_load e_okR 0 13)) t_32_13
noncomputable def n_32_9 : e_Y := u_jmp y_ge (u_old2 (o_clt 12 21) 12 n_32_12 (u_at 21)) n_32_12 (u_at 21)
theorem t_32_9 : e_Sn 32 9 (e_un n_32_9) := u_cltT rfl (s_cge (off := (12)) hq_32 (by decide +kernel) rfl rfl : e_Sn 32 9 (o_clt 12 21)) t_32_12 u_atT
noncomputable def n_32_6 : e_Y := u_getf 4 0 (u_old (o_getf (e_f1 4 0) 9) n_32_9) n_32_9
theorem t_32_6 : e_Sn 32 6 (e_un n_32_6) := u_getfT (s_getf (C := er_4) (T := et_4) (N := 5) (ref := "Plateroomprinter$Items") (index := 15) (ci := 4) (k := 0) hq_32 ho_32 ⟨rfl, by decide, ei_4, r_m_1_94, .inl rfl⟩ (by decide +kernel) rfl : e_Sn 32 6 (o_getf (e_f1 4 0) 9)) t_32_9
noncomputable def n_32_5 : e_Y := u_ld f_okA f_l0 n_32_6
theorem t_32_5 : e_Sn 32 5 (e_un n_32_5) := u_ldAT f_l0_eq (s_aload (i := .aload_n 0) (len := 1) hq_32 (by decide +kernel) rfl (.inr ⟨0, rfl, rfl, rfl⟩) : e_Sn 32 5 (o_load e_okR 0 6)) t_32_6
noncomputable def n_32_4 : e_Y := u_ld f_okI f_l1 n_32_5
theorem t_32_4 : e_Sn 32 4 (e_un n_32_4) := u_ldIT f_l1_eq (s_iload (i := .iload_n 1) (len := 1) hq_32 (by decide +kernel) rfl (.inr ⟨1, rfl, rfl, rfl⟩) : e_Sn 32 4 (o_load e_okI 1 5)) t_32_5
noncomputable def n_32_1 : e_Y := u_if y_ge0 (u_old2 (o_iflt 21 4) 21 (u_at 21) n_32_4) (u_at 21) n_32_4
theorem t_32_1 : e_Sn 32 1 (e_un n_32_1) := u_ifltT rfl (s_iflt (off := (20)) hq_32 (by decide +kernel) rfl rfl : e_Sn 32 1 (o_iflt 21 4)) u_atT t_32_4
noncomputable def n_32_0 : e_Y := u_ld f_okI f_l1 n_32_1
theorem t_32_0 : e_Sn 32 0 (e_un n_32_0) := u_ldIT f_l1_eq (s_iload (i := .iload_n 1) (len := 1) hq_32 (by decide +kernel) rfl (.inr ⟨1, rfl, rfl, rfl⟩) : e_Sn 32 0 (o_load e_okI 1 1)) t_32_1
noncomputable def e_tb_32 : e_X := (e_lf 0 (e_un n_32_0))
theorem e_tk_32 : e_Tb 32 e_tb_32 := (e_lfT t_32_0)
theorem hq_34 : (e_ml[34]?).map (·.2.1) = some prog_5_method_5_code := Eq.trans (congrArg (Option.map (fun e => e.2.1)) hy_34) rfl
theorem ho_34 : (e_ml[34]?).map (·.1.cls) = some "Plateroomprinter$Items" := Eq.trans (congrArg (Option.map (fun e => e.1.cls)) hy_34) rfl
theorem hr_34 : (e_ml[34]?).map (·.2.2.2) = some (some .int) := Eq.trans (congrArg (Option.map (fun e => e.2.2.2)) hy_34) rfl
noncomputable def n_34_22 : e_Y := u_retI
theorem t_34_22 : e_Sn 34 22 (e_un n_34_22) := u_retIT (s_iret hq_34 hr_34 (by decide +kernel) : e_Sn 34 22 (o_ret e_okI))
noncomputable def n_34_18 : e_Y := n_34_22
theorem t_34_18 : e_Sn 34 18 (e_un n_34_18) := u_gotoT (s_goto (off := (4)) hq_34 (by decide +kernel) rfl : e_Sn 34 18 (o_goto 22)) t_34_22
noncomputable def n_34_17 : e_Y := u_ald 0 (u_old (o_ald e_fcs 18) n_34_18) n_34_18
theorem t_34_17 : e_Sn 34 17 (e_un n_34_17) := u_aldT (s_iald hq_34 (by decide +kernel) rfl : e_Sn 34 17 (o_ald e_fcs 18)) t_34_18
noncomputable def n_34_16 : e_Y := u_ld f_okI f_l1 n_34_17
theorem t_34_16 : e_Sn 34 16 (e_un n_34_16) := u_ldIT f_l1_eq (s_iload (i := .iload_n 1) (len := 1) hq_34 (by decide +kernel) rfl (.inr ⟨1, rfl, rfl, rfl⟩) : e_Sn 34 16 (o_load e_okI 1 17)) t_34_17
noncomputable def n_34_13 : e_Y := u_getf 4 1 (u_old (o_getf (e_f1 4 1) 16) n_34_16) n_34_16
theorem t_34_13 : e_Sn 34 13 (e_un n_34_13) := u_getfT (s_getf (C := er_4) (T := et_4) (N := 5) (ref := "Plateroomprinter$Items") (index := 21) (ci := 4) (k := 1) hq_34 ho_34 ⟨rfl, by decide, ei_4, r_m_1_95, .inl rfl⟩ (by decide +kernel) rfl : e_Sn 34 13 (o_getf (e_f1 4 1) 16)) t_34_16
noncomputable def n_34_12 : e_Y := u_ld f_okA f_l0 n_34_13
theorem t_34_12 : e_Sn 34 12 (e_un n_34_12) := u_ldAT f_l0_eq (s_aload (i := .aload_n 0) (len := 1) hq_34 (by decide +kernel) rfl (.inr ⟨0, rfl, rfl, rfl⟩) : e_Sn 34 12 (o_load e_okR 0 13)) t_34_13
noncomputable def n_34_9 : e_Y := u_jmp y_ge (u_old2 (o_clt 12 21) 12 n_34_12 (u_at 21)) n_34_12 (u_at 21)
theorem t_34_9 : e_Sn 34 9 (e_un n_34_9) := u_cltT rfl (s_cge (off := (12)) hq_34 (by decide +kernel) rfl rfl : e_Sn 34 9 (o_clt 12 21)) t_34_12 u_atT
noncomputable def n_34_6 : e_Y := u_getf 4 0 (u_old (o_getf (e_f1 4 0) 9) n_34_9) n_34_9
theorem t_34_6 : e_Sn 34 6 (e_un n_34_6) := u_getfT (s_getf (C := er_4) (T := et_4) (N := 5) (ref := "Plateroomprinter$Items") (index := 15) (ci := 4) (k := 0) hq_34 ho_34 ⟨rfl, by decide, ei_4, r_m_1_94, .inl rfl⟩ (by decide +kernel) rfl : e_Sn 34 6 (o_getf (e_f1 4 0) 9)) t_34_9
noncomputable def n_34_5 : e_Y := u_ld f_okA f_l0 n_34_6
theorem t_34_5 : e_Sn 34 5 (e_un n_34_5) := u_ldAT f_l0_eq (s_aload (i := .aload_n 0) (len := 1) hq_34 (by decide +kernel) rfl (.inr ⟨0, rfl, rfl, rfl⟩) : e_Sn 34 5 (o_load e_okR 0 6)) t_34_6
noncomputable def n_34_4 : e_Y := u_ld f_okI f_l1 n_34_5
theorem t_34_4 : e_Sn 34 4 (e_un n_34_4) := u_ldIT f_l1_eq (s_iload (i := .iload_n 1) (len := 1) hq_34 (by decide +kernel) rfl (.inr ⟨1, rfl, rfl, rfl⟩) : e_Sn 34 4 (o_load e_okI 1 5)) t_34_5
noncomputable def n_34_1 : e_Y := u_if y_ge0 (u_old2 (o_iflt 21 4) 21 (u_at 21) n_34_4) (u_at 21) n_34_4
theorem t_34_1 : e_Sn 34 1 (e_un n_34_1) := u_ifltT rfl (s_iflt (off := (20)) hq_34 (by decide +kernel) rfl rfl : e_Sn 34 1 (o_iflt 21 4)) u_atT t_34_4
noncomputable def n_34_0 : e_Y := u_ld f_okI f_l1 n_34_1
theorem t_34_0 : e_Sn 34 0 (e_un n_34_0) := u_ldIT f_l1_eq (s_iload (i := .iload_n 1) (len := 1) hq_34 (by decide +kernel) rfl (.inr ⟨1, rfl, rfl, rfl⟩) : e_Sn 34 0 (o_load e_okI 1 1)) t_34_1
noncomputable def e_tb_34 : e_X := (e_lf 0 (e_un n_34_0))
theorem e_tk_34 : e_Tb 34 e_tb_34 := (e_lfT t_34_0)
theorem hq_35 : (e_ml[35]?).map (·.2.1) = some prog_5_method_6_code := Eq.trans (congrArg (Option.map (fun e => e.2.1)) hy_35) rfl
theorem ho_35 : (e_ml[35]?).map (·.1.cls) = some "Plateroomprinter$Items" := Eq.trans (congrArg (Option.map (fun e => e.1.cls)) hy_35) rfl
theorem hr_35 : (e_ml[35]?).map (·.2.2.2) = some (some .int) := Eq.trans (congrArg (Option.map (fun e => e.2.2.2)) hy_35) rfl
noncomputable def n_35_22 : e_Y := u_retI
theorem t_35_22 : e_Sn 35 22 (e_un n_35_22) := u_retIT (s_iret hq_35 hr_35 (by decide +kernel) : e_Sn 35 22 (o_ret e_okI))
noncomputable def n_35_18 : e_Y := n_35_22
theorem t_35_18 : e_Sn 35 18 (e_un n_35_18) := u_gotoT (s_goto (off := (4)) hq_35 (by decide +kernel) rfl : e_Sn 35 18 (o_goto 22)) t_35_22
noncomputable def n_35_17 : e_Y := u_ald 0 (u_old (o_ald e_fcs 18) n_35_18) n_35_18
theorem t_35_17 : e_Sn 35 17 (e_un n_35_17) := u_aldT (s_iald hq_35 (by decide +kernel) rfl : e_Sn 35 17 (o_ald e_fcs 18)) t_35_18
noncomputable def n_35_16 : e_Y := u_ld f_okI f_l1 n_35_17
theorem t_35_16 : e_Sn 35 16 (e_un n_35_16) := u_ldIT f_l1_eq (s_iload (i := .iload_n 1) (len := 1) hq_35 (by decide +kernel) rfl (.inr ⟨1, rfl, rfl, rfl⟩) : e_Sn 35 16 (o_load e_okI 1 17)) t_35_17
noncomputable def n_35_13 : e_Y := u_getf 4 2 (u_old (o_getf (e_f1 4 2) 16) n_35_16) n_35_16
theorem t_35_13 : e_Sn 35 13 (e_un n_35_13) := u_getfT (s_getf (C := er_4) (T := et_4) (N := 5) (ref := "Plateroomprinter$Items") (index := 25) (ci := 4) (k := 2) hq_35 ho_35 ⟨rfl, by decide, ei_4, r_m_1_96, .inl rfl⟩ (by decide +kernel) rfl : e_Sn 35 13 (o_getf (e_f1 4 2) 16)) t_35_16
noncomputable def n_35_12 : e_Y := u_ld f_okA f_l0 n_35_13
theorem t_35_12 : e_Sn 35 12 (e_un n_35_12) := u_ldAT f_l0_eq (s_aload (i := .aload_n 0) (len := 1) hq_35 (by decide +kernel) rfl (.inr ⟨0, rfl, rfl, rfl⟩) : e_Sn 35 12 (o_load e_okR 0 13)) t_35_13
noncomputable def n_35_9 : e_Y := u_jmp y_ge (u_old2 (o_clt 12 21) 12 n_35_12 (u_at 21)) n_35_12 (u_at 21)
theorem t_35_9 : e_Sn 35 9 (e_un n_35_9) := u_cltT rfl (s_cge (off := (12)) hq_35 (by decide +kernel) rfl rfl : e_Sn 35 9 (o_clt 12 21)) t_35_12 u_atT
noncomputable def n_35_6 : e_Y := u_getf 4 0 (u_old (o_getf (e_f1 4 0) 9) n_35_9) n_35_9
theorem t_35_6 : e_Sn 35 6 (e_un n_35_6) := u_getfT (s_getf (C := er_4) (T := et_4) (N := 5) (ref := "Plateroomprinter$Items") (index := 15) (ci := 4) (k := 0) hq_35 ho_35 ⟨rfl, by decide, ei_4, r_m_1_94, .inl rfl⟩ (by decide +kernel) rfl : e_Sn 35 6 (o_getf (e_f1 4 0) 9)) t_35_9
noncomputable def n_35_5 : e_Y := u_ld f_okA f_l0 n_35_6
theorem t_35_5 : e_Sn 35 5 (e_un n_35_5) := u_ldAT f_l0_eq (s_aload (i := .aload_n 0) (len := 1) hq_35 (by decide +kernel) rfl (.inr ⟨0, rfl, rfl, rfl⟩) : e_Sn 35 5 (o_load e_okR 0 6)) t_35_6
noncomputable def n_35_4 : e_Y := u_ld f_okI f_l1 n_35_5
theorem t_35_4 : e_Sn 35 4 (e_un n_35_4) := u_ldIT f_l1_eq (s_iload (i := .iload_n 1) (len := 1) hq_35 (by decide +kernel) rfl (.inr ⟨1, rfl, rfl, rfl⟩) : e_Sn 35 4 (o_load e_okI 1 5)) t_35_5
noncomputable def n_35_1 : e_Y := u_if y_ge0 (u_old2 (o_iflt 21 4) 21 (u_at 21) n_35_4) (u_at 21) n_35_4
theorem t_35_1 : e_Sn 35 1 (e_un n_35_1) := u_ifltT rfl (s_iflt (off := (20)) hq_35 (by decide +kernel) rfl rfl : e_Sn 35 1 (o_iflt 21 4)) u_atT t_35_4
noncomputable def n_35_0 : e_Y := u_ld f_okI f_l1 n_35_1
theorem t_35_0 : e_Sn 35 0 (e_un n_35_0) := u_ldIT f_l1_eq (s_iload (i := .iload_n 1) (len := 1) hq_35 (by decide +kernel) rfl (.inr ⟨1, rfl, rfl, rfl⟩) : e_Sn 35 0 (o_load e_okI 1 1)) t_35_1
noncomputable def e_tb_35 : e_X := (e_lf 0 (e_un n_35_0))
theorem e_tk_35 : e_Tb 35 e_tb_35 := (e_lfT t_35_0)
noncomputable def n_24_155 : e_Y := u_retI
theorem t_24_155 : e_Sn 24 155 (e_un n_24_155) := u_retIT (s_iret hq_24 hr_24 (by decide +kernel) : e_Sn 24 155 (o_ret e_okI))
noncomputable def n_24_154 : e_Y := u_push (.inl 2147483648) n_24_155
theorem t_24_154 : e_Sn 24 154 (e_un n_24_154) := u_pushT (s_iconst (n := (0)) hq_24 (by decide +kernel) rfl ⟨by decide +kernel, by decide +kernel⟩ : e_Sn 24 154 (o_push (.inl 2147483648) 155)) t_24_155
noncomputable def n_24_151 : e_Y := (u_at 38)
theorem t_24_151 : e_Sn 24 151 (e_un n_24_151) := u_gotoT (s_goto (off := (-113)) hq_24 (by decide +kernel) rfl : e_Sn 24 151 (o_goto 38)) u_atT
noncomputable def n_24_148 : e_Y := u_inc f_l4 f_s4 1 n_24_151
theorem t_24_148 : e_Sn 24 148 (e_un n_24_148) := u_incT f_l4_eq (fun _ _ _ => f_s4_eq) (s_iinc (zz := (1)) hq_24 (by decide +kernel) rfl (by decide +kernel) ⟨by decide, by decide⟩ : e_Sn 24 148 (o_iinc 4 1 151)) t_24_151
noncomputable def n_24_145 : e_Y := u_putf 4 4 f_okI (u_old (o_putf (e_f1 4 4) e_okI 148) n_24_148) n_24_148
theorem t_24_145 : e_Sn 24 145 (e_un n_24_145) := u_putfT (fun _ => f_okI_eq) (s_putf (ty0 := ey_4) (ok := e_okI) (C := er_4) (T := et_4) (N := 5) (ref := "Plateroomprinter$Items") (index := 162) (ci := 4) (k := 4) hq_24 ho_24 ⟨rfl, by decide, ei_4, r_m_1_99, .inl rfl⟩ eo_4 en_4 e_oksI (.inl rfl) (by decide +kernel) rfl : e_Sn 24 145 (o_putf (e_f1 4 4) e_okI 148)) t_24_148
noncomputable def n_24_143 : e_Y := u_ld f_okI f_l6 n_24_145
theorem t_24_143 : e_Sn 24 143 (e_un n_24_143) := u_ldIT f_l6_eq (s_iload (i := .iload 6) (len := 2) hq_24 (by decide +kernel) rfl (.inl ⟨rfl, rfl⟩) : e_Sn 24 143 (o_load e_okI 6 145)) t_24_145
noncomputable def n_24_142 : e_Y := u_ld f_okA f_l3 n_24_143
theorem t_24_142 : e_Sn 24 142 (e_un n_24_142) := u_ldAT f_l3_eq (s_aload (i := .aload_n 3) (len := 1) hq_24 (by decide +kernel) rfl (.inr ⟨3, rfl, rfl, rfl⟩) : e_Sn 24 142 (o_load e_okR 3 143)) t_24_143
noncomputable def n_24_141 : e_Y := u_ast 0 f_okI (u_old (o_ast 0 e_okI 142) n_24_142) n_24_142
theorem t_24_141 : e_Sn 24 141 (e_un n_24_141) := u_astT (fun _ => f_okI_eq) (s_iast hq_24 (by decide +kernel) rfl : e_Sn 24 141 (o_ast 0 e_okI 142)) t_24_142
noncomputable def n_24_138 : e_Y := u_callV 4 32 2 21 2 n_32_0 n_24_141
theorem t_24_138 : e_Sn 24 138 (e_un n_24_138) := u_callVT rfl (s_callV (ci := 4) (C := er_4) (T := et_4) (N := 5) (index := 141) hq_24 ho_24 hy_32 hp_32 hc_32 hi_32 hd_32 (r_k3 (List.mem_of_getElem? (i := 220) (by decide +kernel))) hs_32 (r_k3 (List.mem_of_getElem? (i := 222) (by decide +kernel))) rfl (by decide +kernel) rfl : e_Sn 24 138 (o_callV (e_s1 4 32 2) 2 141)) t_32_0 t_24_141
noncomputable def n_24_136 : e_Y := u_ld f_okI f_l6 n_24_138
theorem t_24_136 : e_Sn 24 136 (e_un n_24_136) := u_ldIT f_l6_eq (s_iload (i := .iload 6) (len := 2) hq_24 (by decide +kernel) rfl (.inl ⟨rfl, rfl⟩) : e_Sn 24 136 (o_load e_okI 6 138)) t_24_138
noncomputable def n_24_135 : e_Y := u_ld f_okA f_l3 n_24_136
theorem t_24_135 : e_Sn 24 135 (e_un n_24_135) := u_ldAT f_l3_eq (s_aload (i := .aload_n 3) (len := 1) hq_24 (by decide +kernel) rfl (.inr ⟨3, rfl, rfl, rfl⟩) : e_Sn 24 135 (o_load e_okR 3 136)) t_24_136
noncomputable def n_24_134 : e_Y := u_bin a_isub (u_old (o_isub 135) n_24_135) n_24_135
theorem t_24_134 : e_Sn 24 134 (e_un n_24_134) := u_isubT (s_isub hq_24 (by decide +kernel) rfl : e_Sn 24 134 (o_isub 135)) t_24_135
noncomputable def n_24_132 : e_Y := u_ld f_okI f_l4 n_24_134
theorem t_24_132 : e_Sn 24 132 (e_un n_24_132) := u_ldIT f_l4_eq (s_iload (i := .iload 4) (len := 2) hq_24 (by decide +kernel) rfl (.inl ⟨rfl, rfl⟩) : e_Sn 24 132 (o_load e_okI 4 134)) t_24_134
noncomputable def n_24_131 : e_Y := u_bin a_isub (u_old (o_isub 132) n_24_132) n_24_132
theorem t_24_131 : e_Sn 24 131 (e_un n_24_131) := u_isubT (s_isub hq_24 (by decide +kernel) rfl : e_Sn 24 131 (o_isub 132)) t_24_132
noncomputable def n_24_130 : e_Y := u_push (.inl 2147483649) n_24_131
theorem t_24_130 : e_Sn 24 130 (e_un n_24_130) := u_pushT (s_iconst (n := (1)) hq_24 (by decide +kernel) rfl ⟨by decide +kernel, by decide +kernel⟩ : e_Sn 24 130 (o_push (.inl 2147483649) 131)) t_24_131
noncomputable def n_24_129 : e_Y := u_ld f_okI f_l2 n_24_130
theorem t_24_129 : e_Sn 24 129 (e_un n_24_129) := u_ldIT f_l2_eq (s_iload (i := .iload_n 2) (len := 1) hq_24 (by decide +kernel) rfl (.inr ⟨2, rfl, rfl, rfl⟩) : e_Sn 24 129 (o_load e_okI 2 130)) t_24_130
noncomputable def n_24_126 : e_Y := u_getf 2 4 (u_old (o_getf (e_f1 2 4) 129) n_24_129) n_24_129
theorem t_24_126 : e_Sn 24 126 (e_un n_24_126) := u_getfT (s_getf (C := er_2) (T := et_2) (N := 19) (ref := "Plateroomprinter$Engine") (index := 18) (ci := 2) (k := 4) hq_24 ho_24 ⟨rfl, by decide, ei_2, r_m_3_4, .inl rfl⟩ (by decide +kernel) rfl : e_Sn 24 126 (o_getf (e_f1 2 4) 129)) t_24_129
noncomputable def n_24_125 : e_Y := u_ld f_okA f_l0 n_24_126
theorem t_24_125 : e_Sn 24 125 (e_un n_24_125) := u_ldAT f_l0_eq (s_aload (i := .aload_n 0) (len := 1) hq_24 (by decide +kernel) rfl (.inr ⟨0, rfl, rfl, rfl⟩) : e_Sn 24 125 (o_load e_okR 0 126)) t_24_126
noncomputable def n_24_124 : e_Y := u_ast 0 f_okI (u_old (o_ast 0 e_okI 125) n_24_125) n_24_125
theorem t_24_124 : e_Sn 24 124 (e_un n_24_124) := u_astT (fun _ => f_okI_eq) (s_iast hq_24 (by decide +kernel) rfl : e_Sn 24 124 (o_ast 0 e_okI 125)) t_24_125
noncomputable def n_24_121 : e_Y := u_callV 4 35 2 21 2 n_35_0 n_24_124
theorem t_24_121 : e_Sn 24 121 (e_un n_24_121) := u_callVT rfl (s_callV (ci := 4) (C := er_4) (T := et_4) (N := 5) (index := 138) hq_24 ho_24 hy_35 hp_35 hc_35 hi_35 hd_35 (r_k3 (List.mem_of_getElem? (i := 216) (by decide +kernel))) hs_35 (r_k3 (List.mem_of_getElem? (i := 218) (by decide +kernel))) rfl (by decide +kernel) rfl : e_Sn 24 121 (o_callV (e_s1 4 35 2) 2 124)) t_35_0 t_24_124
noncomputable def n_24_119 : e_Y := u_ld f_okI f_l6 n_24_121
theorem t_24_119 : e_Sn 24 119 (e_un n_24_119) := u_ldIT f_l6_eq (s_iload (i := .iload 6) (len := 2) hq_24 (by decide +kernel) rfl (.inl ⟨rfl, rfl⟩) : e_Sn 24 119 (o_load e_okI 6 121)) t_24_121
noncomputable def n_24_118 : e_Y := u_ld f_okA f_l3 n_24_119
theorem t_24_118 : e_Sn 24 118 (e_un n_24_118) := u_ldAT f_l3_eq (s_aload (i := .aload_n 3) (len := 1) hq_24 (by decide +kernel) rfl (.inr ⟨3, rfl, rfl, rfl⟩) : e_Sn 24 118 (o_load e_okR 3 119)) t_24_119
noncomputable def n_24_117 : e_Y := u_bin a_isub (u_old (o_isub 118) n_24_118) n_24_118
theorem t_24_117 : e_Sn 24 117 (e_un n_24_117) := u_isubT (s_isub hq_24 (by decide +kernel) rfl : e_Sn 24 117 (o_isub 118)) t_24_118
noncomputable def n_24_115 : e_Y := u_ld f_okI f_l4 n_24_117
theorem t_24_115 : e_Sn 24 115 (e_un n_24_115) := u_ldIT f_l4_eq (s_iload (i := .iload 4) (len := 2) hq_24 (by decide +kernel) rfl (.inl ⟨rfl, rfl⟩) : e_Sn 24 115 (o_load e_okI 4 117)) t_24_117
noncomputable def n_24_114 : e_Y := u_bin a_isub (u_old (o_isub 115) n_24_115) n_24_115
theorem t_24_114 : e_Sn 24 114 (e_un n_24_114) := u_isubT (s_isub hq_24 (by decide +kernel) rfl : e_Sn 24 114 (o_isub 115)) t_24_115
noncomputable def n_24_113 : e_Y := u_push (.inl 2147483649) n_24_114
theorem t_24_113 : e_Sn 24 113 (e_un n_24_113) := u_pushT (s_iconst (n := (1)) hq_24 (by decide +kernel) rfl ⟨by decide +kernel, by decide +kernel⟩ : e_Sn 24 113 (o_push (.inl 2147483649) 114)) t_24_114
noncomputable def n_24_112 : e_Y := u_ld f_okI f_l2 n_24_113
theorem t_24_112 : e_Sn 24 112 (e_un n_24_112) := u_ldIT f_l2_eq (s_iload (i := .iload_n 2) (len := 1) hq_24 (by decide +kernel) rfl (.inr ⟨2, rfl, rfl, rfl⟩) : e_Sn 24 112 (o_load e_okI 2 113)) t_24_113
noncomputable def n_24_109 : e_Y := u_getf 2 3 (u_old (o_getf (e_f1 2 3) 112) n_24_112) n_24_112
theorem t_24_109 : e_Sn 24 109 (e_un n_24_109) := u_getfT (s_getf (C := er_2) (T := et_2) (N := 19) (ref := "Plateroomprinter$Engine") (index := 15) (ci := 2) (k := 3) hq_24 ho_24 ⟨rfl, by decide, ei_2, r_m_3_2, .inl rfl⟩ (by decide +kernel) rfl : e_Sn 24 109 (o_getf (e_f1 2 3) 112)) t_24_112
noncomputable def n_24_108 : e_Y := u_ld f_okA f_l0 n_24_109
theorem t_24_108 : e_Sn 24 108 (e_un n_24_108) := u_ldAT f_l0_eq (s_aload (i := .aload_n 0) (len := 1) hq_24 (by decide +kernel) rfl (.inr ⟨0, rfl, rfl, rfl⟩) : e_Sn 24 108 (o_load e_okR 0 109)) t_24_109
noncomputable def n_24_107 : e_Y := u_ast 0 f_okI (u_old (o_ast 0 e_okI 108) n_24_108) n_24_108
theorem t_24_107 : e_Sn 24 107 (e_un n_24_107) := u_astT (fun _ => f_okI_eq) (s_iast hq_24 (by decide +kernel) rfl : e_Sn 24 107 (o_ast 0 e_okI 108)) t_24_108
noncomputable def n_24_104 : e_Y := u_callV 4 34 2 21 2 n_34_0 n_24_107
theorem t_24_104 : e_Sn 24 104 (e_un n_24_104) := u_callVT rfl (s_callV (ci := 4) (C := er_4) (T := et_4) (N := 5) (index := 135) hq_24 ho_24 hy_34 hp_34 hc_34 hi_34 hd_34 r_m_3_212 hs_34 r_m_3_214 rfl (by decide +kernel) rfl : e_Sn 24 104 (o_callV (e_s1 4 34 2) 2 107)) t_34_0 t_24_107
noncomputable def n_24_102 : e_Y := u_ld f_okI f_l6 n_24_104
theorem t_24_102 : e_Sn 24 102 (e_un n_24_102) := u_ldIT f_l6_eq (s_iload (i := .iload 6) (len := 2) hq_24 (by decide +kernel) rfl (.inl ⟨rfl, rfl⟩) : e_Sn 24 102 (o_load e_okI 6 104)) t_24_104
noncomputable def n_24_101 : e_Y := u_ld f_okA f_l3 n_24_102
theorem t_24_101 : e_Sn 24 101 (e_un n_24_101) := u_ldAT f_l3_eq (s_aload (i := .aload_n 3) (len := 1) hq_24 (by decide +kernel) rfl (.inr ⟨3, rfl, rfl, rfl⟩) : e_Sn 24 101 (o_load e_okR 3 102)) t_24_102
noncomputable def n_24_100 : e_Y := u_bin a_isub (u_old (o_isub 101) n_24_101) n_24_101
theorem t_24_100 : e_Sn 24 100 (e_un n_24_100) := u_isubT (s_isub hq_24 (by decide +kernel) rfl : e_Sn 24 100 (o_isub 101)) t_24_101
noncomputable def n_24_98 : e_Y := u_ld f_okI f_l4 n_24_100
theorem t_24_98 : e_Sn 24 98 (e_un n_24_98) := u_ldIT f_l4_eq (s_iload (i := .iload 4) (len := 2) hq_24 (by decide +kernel) rfl (.inl ⟨rfl, rfl⟩) : e_Sn 24 98 (o_load e_okI 4 100)) t_24_100
noncomputable def n_24_97 : e_Y := u_bin a_isub (u_old (o_isub 98) n_24_98) n_24_98
theorem t_24_97 : e_Sn 24 97 (e_un n_24_97) := u_isubT (s_isub hq_24 (by decide +kernel) rfl : e_Sn 24 97 (o_isub 98)) t_24_98
noncomputable def n_24_96 : e_Y := u_push (.inl 2147483649) n_24_97
theorem t_24_96 : e_Sn 24 96 (e_un n_24_96) := u_pushT (s_iconst (n := (1)) hq_24 (by decide +kernel) rfl ⟨by decide +kernel, by decide +kernel⟩ : e_Sn 24 96 (o_push (.inl 2147483649) 97)) t_24_97
noncomputable def n_24_95 : e_Y := u_ld f_okI f_l2 n_24_96
theorem t_24_95 : e_Sn 24 95 (e_un n_24_95) := u_ldIT f_l2_eq (s_iload (i := .iload_n 2) (len := 1) hq_24 (by decide +kernel) rfl (.inr ⟨2, rfl, rfl, rfl⟩) : e_Sn 24 95 (o_load e_okI 2 96)) t_24_96
noncomputable def n_24_92 : e_Y := u_getf 2 2 (u_old (o_getf (e_f1 2 2) 95) n_24_95) n_24_95
theorem t_24_92 : e_Sn 24 92 (e_un n_24_92) := u_getfT (s_getf (C := er_2) (T := et_2) (N := 19) (ref := "Plateroomprinter$Engine") (index := 11) (ci := 2) (k := 2) hq_24 ho_24 ⟨rfl, by decide, ei_2, r_m_3_1, .inl rfl⟩ (by decide +kernel) rfl : e_Sn 24 92 (o_getf (e_f1 2 2) 95)) t_24_95
noncomputable def n_24_91 : e_Y := u_ld f_okA f_l0 n_24_92
theorem t_24_91 : e_Sn 24 91 (e_un n_24_91) := u_ldAT f_l0_eq (s_aload (i := .aload_n 0) (len := 1) hq_24 (by decide +kernel) rfl (.inr ⟨0, rfl, rfl, rfl⟩) : e_Sn 24 91 (o_load e_okR 0 92)) t_24_92
noncomputable def n_24_86 : e_Y := u_jmp y_ne (u_old2 (o_ceq 91 89) 91 n_24_91 (u_at 89)) n_24_91 (u_at 89)
theorem t_24_86 : e_Sn 24 86 (e_un n_24_86) := u_ceqT rfl (s_ceq (off := (5)) hq_24 (by decide +kernel) rfl rfl : e_Sn 24 86 (o_ceq 91 89)) t_24_91 u_atT
noncomputable def n_24_85 : e_Y := u_bin a_isub (u_old (o_isub 86) n_24_86) n_24_86
theorem t_24_85 : e_Sn 24 85 (e_un n_24_85) := u_isubT (s_isub hq_24 (by decide +kernel) rfl : e_Sn 24 85 (o_isub 86)) t_24_86
noncomputable def n_24_84 : e_Y := u_push (.inl 2147483649) n_24_85
theorem t_24_84 : e_Sn 24 84 (e_un n_24_84) := u_pushT (s_iconst (n := (1)) hq_24 (by decide +kernel) rfl ⟨by decide +kernel, by decide +kernel⟩ : e_Sn 24 84 (o_push (.inl 2147483649) 85)) t_24_85
noncomputable def n_24_82 : e_Y := u_ld f_okI f_l5 n_24_84
theorem t_24_82 : e_Sn 24 82 (e_un n_24_82) := u_ldIT f_l5_eq (s_iload (i := .iload 5) (len := 2) hq_24 (by decide +kernel) rfl (.inl ⟨rfl, rfl⟩) : e_Sn 24 82 (o_load e_okI 5 84)) t_24_84
noncomputable def n_24_79 : e_Y := u_callV 4 34 2 21 2 n_34_0 n_24_82
theorem t_24_79 : e_Sn 24 79 (e_un n_24_79) := u_callVT rfl (s_callV (ci := 4) (C := er_4) (T := et_4) (N := 5) (index := 135) hq_24 ho_24 hy_34 hp_34 hc_34 hi_34 hd_34 r_m_3_212 hs_34 r_m_3_214 rfl (by decide +kernel) rfl : e_Sn 24 79 (o_callV (e_s1 4 34 2) 2 82)) t_34_0 t_24_82
noncomputable def n_24_77 : e_Y := u_ld f_okI f_l6 n_24_79
theorem t_24_77 : e_Sn 24 77 (e_un n_24_77) := u_ldIT f_l6_eq (s_iload (i := .iload 6) (len := 2) hq_24 (by decide +kernel) rfl (.inl ⟨rfl, rfl⟩) : e_Sn 24 77 (o_load e_okI 6 79)) t_24_79
noncomputable def n_24_76 : e_Y := u_ld f_okA f_l3 n_24_77
theorem t_24_76 : e_Sn 24 76 (e_un n_24_76) := u_ldAT f_l3_eq (s_aload (i := .aload_n 3) (len := 1) hq_24 (by decide +kernel) rfl (.inr ⟨3, rfl, rfl, rfl⟩) : e_Sn 24 76 (o_load e_okR 3 77)) t_24_77
noncomputable def n_24_73 : e_Y := u_jmp y_ne (u_old2 (o_ceq 91 76) 91 n_24_91 n_24_76) n_24_91 n_24_76
theorem t_24_73 : e_Sn 24 73 (e_un n_24_73) := u_ceqT rfl (s_ceq (off := (18)) hq_24 (by decide +kernel) rfl rfl : e_Sn 24 73 (o_ceq 91 76)) t_24_91 t_24_76
noncomputable def n_24_72 : e_Y := u_push (.inl 2147483652) n_24_73
theorem t_24_72 : e_Sn 24 72 (e_un n_24_72) := u_pushT (s_iconst (n := (4)) hq_24 (by decide +kernel) rfl ⟨by decide +kernel, by decide +kernel⟩ : e_Sn 24 72 (o_push (.inl 2147483652) 73)) t_24_73
noncomputable def n_24_70 : e_Y := u_ld f_okI f_l5 n_24_72
theorem t_24_70 : e_Sn 24 70 (e_un n_24_70) := u_ldIT f_l5_eq (s_iload (i := .iload 5) (len := 2) hq_24 (by decide +kernel) rfl (.inl ⟨rfl, rfl⟩) : e_Sn 24 70 (o_load e_okI 5 72)) t_24_72
noncomputable def n_24_65 : e_Y := u_if y_ge0 (u_old2 (o_iflt 68 70) 68 (u_at 68) n_24_70) (u_at 68) n_24_70
theorem t_24_65 : e_Sn 24 65 (e_un n_24_65) := u_ifltT rfl (s_ifge (off := (5)) hq_24 (by decide +kernel) rfl rfl : e_Sn 24 65 (o_iflt 68 70)) u_atT t_24_70
noncomputable def n_24_63 : e_Y := u_ld f_okI f_l6 n_24_65
theorem t_24_63 : e_Sn 24 63 (e_un n_24_63) := u_ldIT f_l6_eq (s_iload (i := .iload 6) (len := 2) hq_24 (by decide +kernel) rfl (.inl ⟨rfl, rfl⟩) : e_Sn 24 63 (o_load e_okI 6 65)) t_24_65
noncomputable def n_24_61 : e_Y := u_st f_okI f_s6 n_24_63
theorem t_24_61 : e_Sn 24 61 (e_un n_24_61) := u_stIT (fun _ _ _ => f_s6_eq) (s_istore (i := .istore 6) (len := 2) hq_24 (by decide +kernel) rfl (.inl ⟨rfl, rfl⟩) : e_Sn 24 61 (o_store e_okI 6 63)) t_24_63
noncomputable def n_24_60 : e_Y := u_bin a_isub (u_old (o_isub 61) n_24_61) n_24_61
theorem t_24_60 : e_Sn 24 60 (e_un n_24_60) := u_isubT (s_isub hq_24 (by decide +kernel) rfl : e_Sn 24 60 (o_isub 61)) t_24_61
noncomputable def n_24_59 : e_Y := u_push (.inl 2147483649) n_24_60
theorem t_24_59 : e_Sn 24 59 (e_un n_24_59) := u_pushT (s_iconst (n := (1)) hq_24 (by decide +kernel) rfl ⟨by decide +kernel, by decide +kernel⟩ : e_Sn 24 59 (o_push (.inl 2147483649) 60)) t_24_60
noncomputable def n_24_56 : e_Y := u_getf 4 4 (u_old (o_getf (e_f1 4 4) 59) n_24_59) n_24_59
theorem t_24_56 : e_Sn 24 56 (e_un n_24_56) := u_getfT (s_getf (C := er_4) (T := et_4) (N := 5) (ref := "Plateroomprinter$Items") (index := 162) (ci := 4) (k := 4) hq_24 ho_24 ⟨rfl, by decide, ei_4, r_m_1_99, .inl rfl⟩ (by decide +kernel) rfl : e_Sn 24 56 (o_getf (e_f1 4 4) 59)) t_24_59
noncomputable def n_24_55 : e_Y := u_ld f_okA f_l3 n_24_56
theorem t_24_55 : e_Sn 24 55 (e_un n_24_55) := u_ldAT f_l3_eq (s_aload (i := .aload_n 3) (len := 1) hq_24 (by decide +kernel) rfl (.inr ⟨3, rfl, rfl, rfl⟩) : e_Sn 24 55 (o_load e_okR 3 56)) t_24_56
noncomputable def n_24_53 : e_Y := u_st f_okI f_s5 n_24_55
theorem t_24_53 : e_Sn 24 53 (e_un n_24_53) := u_stIT (fun _ _ _ => f_s5_eq) (s_istore (i := .istore 5) (len := 2) hq_24 (by decide +kernel) rfl (.inl ⟨rfl, rfl⟩) : e_Sn 24 53 (o_store e_okI 5 55)) t_24_55
noncomputable def n_24_52 : e_Y := u_bin a_iand (u_old (o_bin Nat.land 53) n_24_53) n_24_53
theorem t_24_52 : e_Sn 24 52 (e_un n_24_52) := u_iandT (s_iand hq_24 (by decide +kernel) rfl : e_Sn 24 52 (o_bin Nat.land 53)) t_24_53
noncomputable def n_24_50 : e_Y := u_push (.inl 2147483663) n_24_52
theorem t_24_50 : e_Sn 24 50 (e_un n_24_50) := u_pushT (s_bipush (n := (15)) hq_24 (by decide +kernel) rfl ⟨by decide +kernel, by decide +kernel⟩ : e_Sn 24 50 (o_push (.inl 2147483663) 52)) t_24_52
noncomputable def n_24_49 : e_Y := u_old (o_ishr 50) n_24_50
theorem t_24_49 : e_Sn 24 49 (e_un n_24_49) := u_oldT (s_ishr hq_24 (by decide +kernel) rfl : e_Sn 24 49 (o_ishr 50)) t_24_50 e_cg_ishr
noncomputable def n_24_48 : e_Y := u_bin a_imul (u_old (o_imul 49) n_24_49) n_24_49
theorem t_24_48 : e_Sn 24 48 (e_un n_24_48) := u_imulT (s_imul hq_24 (by decide +kernel) rfl : e_Sn 24 48 (o_imul 49)) t_24_49
noncomputable def n_24_46 : e_Y := u_ld f_okI f_l4 n_24_48
theorem t_24_46 : e_Sn 24 46 (e_un n_24_46) := u_ldIT f_l4_eq (s_iload (i := .iload 4) (len := 2) hq_24 (by decide +kernel) rfl (.inl ⟨rfl, rfl⟩) : e_Sn 24 46 (o_load e_okI 4 48)) t_24_48
noncomputable def n_24_45 : e_Y := u_push (.inl 2147483652) n_24_46
theorem t_24_45 : e_Sn 24 45 (e_un n_24_45) := u_pushT (s_iconst (n := (4)) hq_24 (by decide +kernel) rfl ⟨by decide +kernel, by decide +kernel⟩ : e_Sn 24 45 (o_push (.inl 2147483652) 46)) t_24_46
noncomputable def n_24_44 : e_Y := u_ld f_okI f_l1 n_24_45
theorem t_24_44 : e_Sn 24 44 (e_un n_24_44) := u_ldIT f_l1_eq (s_iload (i := .iload_n 1) (len := 1) hq_24 (by decide +kernel) rfl (.inr ⟨1, rfl, rfl, rfl⟩) : e_Sn 24 44 (o_load e_okI 1 45)) t_24_45
noncomputable def n_24_41 : e_Y := u_jmp y_ge (u_old2 (o_clt 44 154) 44 n_24_44 n_24_154) n_24_44 n_24_154
theorem t_24_41 : e_Sn 24 41 (e_un n_24_41) := u_cltT rfl (s_cge (off := (113)) hq_24 (by decide +kernel) rfl rfl : e_Sn 24 41 (o_clt 44 154)) t_24_44 t_24_154
noncomputable def n_24_40 : e_Y := u_ld f_okI f_l2 n_24_41
theorem t_24_40 : e_Sn 24 40 (e_un n_24_40) := u_ldIT f_l2_eq (s_iload (i := .iload_n 2) (len := 1) hq_24 (by decide +kernel) rfl (.inr ⟨2, rfl, rfl, rfl⟩) : e_Sn 24 40 (o_load e_okI 2 41)) t_24_41
noncomputable def n_24_38 : e_Y := u_ld f_okI f_l4 n_24_40
theorem t_24_38 : e_Sn 24 38 (e_un n_24_38) := u_ldIT f_l4_eq (s_iload (i := .iload 4) (len := 2) hq_24 (by decide +kernel) rfl (.inl ⟨rfl, rfl⟩) : e_Sn 24 38 (o_load e_okI 4 40)) t_24_40
noncomputable def n_24_36 : e_Y := u_st f_okI f_s4 n_24_38
theorem t_24_36 : e_Sn 24 36 (e_un n_24_36) := u_stIT (fun _ _ _ => f_s4_eq) (s_istore (i := .istore 4) (len := 2) hq_24 (by decide +kernel) rfl (.inl ⟨rfl, rfl⟩) : e_Sn 24 36 (o_store e_okI 4 38)) t_24_38
noncomputable def n_24_35 : e_Y := u_push (.inl 2147483648) n_24_36
theorem t_24_35 : e_Sn 24 35 (e_un n_24_35) := u_pushT (s_iconst (n := (0)) hq_24 (by decide +kernel) rfl ⟨by decide +kernel, by decide +kernel⟩ : e_Sn 24 35 (o_push (.inl 2147483648) 36)) t_24_36
noncomputable def n_24_34 : e_Y := u_st f_okA f_s3 n_24_35
theorem t_24_34 : e_Sn 24 34 (e_un n_24_34) := u_stAT (fun _ _ _ => f_s3_eq) (s_astore (i := .astore_n 3) (len := 1) hq_24 (by decide +kernel) rfl (.inr ⟨3, rfl, rfl, rfl⟩) : e_Sn 24 34 (o_store e_okR 3 35)) t_24_35
noncomputable def n_24_31 : e_Y := u_getf 11 0 (u_old (o_getf (e_f1 11 0) 34) n_24_34) n_24_34
theorem t_24_31 : e_Sn 24 31 (e_un n_24_31) := u_getfT (s_getf (C := er_11) (T := et_11) (N := 15) (ref := "Plateroomprinter$World") (index := 93) (ci := 11) (k := 0) hq_24 ho_24 ⟨rfl, by decide, ei_11, r_m_2_83, .inl rfl⟩ (by decide +kernel) rfl : e_Sn 24 31 (o_getf (e_f1 11 0) 34)) t_24_34
noncomputable def n_24_28 : e_Y := u_getf 2 0 (u_old (o_getf (e_f1 2 0) 31) n_24_31) n_24_31
theorem t_24_28 : e_Sn 24 28 (e_un n_24_28) := u_getfT (s_getf (C := er_2) (T := et_2) (N := 19) (ref := "Plateroomprinter$Engine") (index := 45) (ci := 2) (k := 0) hq_24 ho_24 ⟨rfl, by decide, ei_2, r_m_2_239, .inl rfl⟩ (by decide +kernel) rfl : e_Sn 24 28 (o_getf (e_f1 2 0) 31)) t_24_31
noncomputable def n_24_27 : e_Y := u_ld f_okA f_l0 n_24_28
theorem t_24_27 : e_Sn 24 27 (e_un n_24_27) := u_ldAT f_l0_eq (s_aload (i := .aload_n 0) (len := 1) hq_24 (by decide +kernel) rfl (.inr ⟨0, rfl, rfl, rfl⟩) : e_Sn 24 27 (o_load e_okR 0 28)) t_24_28
noncomputable def n_24_24 : e_Y := (u_at 4)
theorem t_24_24 : e_Sn 24 24 (e_un n_24_24) := u_gotoT (s_goto (off := (-20)) hq_24 (by decide +kernel) rfl : e_Sn 24 24 (o_goto 4)) u_atT
noncomputable def n_24_21 : e_Y := u_inc f_l3 f_s3 1 n_24_24
theorem t_24_21 : e_Sn 24 21 (e_un n_24_21) := u_incT f_l3_eq (fun _ _ _ => f_s3_eq) (s_iinc (zz := (1)) hq_24 (by decide +kernel) rfl (by decide +kernel) ⟨by decide, by decide⟩ : e_Sn 24 21 (o_iinc 3 1 24)) t_24_24
noncomputable def n_24_18 : e_Y := u_inc f_l2 f_s2 1 n_24_21
theorem t_24_18 : e_Sn 24 18 (e_un n_24_18) := u_incT f_l2_eq (fun _ _ _ => f_s2_eq) (s_iinc (zz := (1)) hq_24 (by decide +kernel) rfl (by decide +kernel) ⟨by decide, by decide⟩ : e_Sn 24 18 (o_iinc 2 1 21)) t_24_21
noncomputable def n_24_15 : e_Y := u_if y_ne0 (u_old2 (o_ifeq 21 18) 21 n_24_21 n_24_18) n_24_21 n_24_18
theorem t_24_15 : e_Sn 24 15 (e_un n_24_15) := u_ifeqT rfl (s_ifeq (off := (6)) hq_24 (by decide +kernel) rfl rfl : e_Sn 24 15 (o_ifeq 21 18)) t_24_21 t_24_18
noncomputable def n_24_14 : e_Y := u_old (o_ishr 15) n_24_15
theorem t_24_14 : e_Sn 24 14 (e_un n_24_14) := u_oldT (s_ishr hq_24 (by decide +kernel) rfl : e_Sn 24 14 (o_ishr 15)) t_24_15 e_cg_ishr
noncomputable def n_24_13 : e_Y := u_bin a_imul (u_old (o_imul 14) n_24_14) n_24_14
theorem t_24_13 : e_Sn 24 13 (e_un n_24_13) := u_imulT (s_imul hq_24 (by decide +kernel) rfl : e_Sn 24 13 (o_imul 14)) t_24_14
noncomputable def n_24_12 : e_Y := u_ld f_okI f_l3 n_24_13
theorem t_24_12 : e_Sn 24 12 (e_un n_24_12) := u_ldIT f_l3_eq (s_iload (i := .iload_n 3) (len := 1) hq_24 (by decide +kernel) rfl (.inr ⟨3, rfl, rfl, rfl⟩) : e_Sn 24 12 (o_load e_okI 3 13)) t_24_13
noncomputable def n_24_11 : e_Y := u_push (.inl 2147483652) n_24_12
theorem t_24_11 : e_Sn 24 11 (e_un n_24_11) := u_pushT (s_iconst (n := (4)) hq_24 (by decide +kernel) rfl ⟨by decide +kernel, by decide +kernel⟩ : e_Sn 24 11 (o_push (.inl 2147483652) 12)) t_24_12
noncomputable def n_24_10 : e_Y := u_ld f_okI f_l1 n_24_11
theorem t_24_10 : e_Sn 24 10 (e_un n_24_10) := u_ldIT f_l1_eq (s_iload (i := .iload_n 1) (len := 1) hq_24 (by decide +kernel) rfl (.inr ⟨1, rfl, rfl, rfl⟩) : e_Sn 24 10 (o_load e_okI 1 11)) t_24_11
noncomputable def n_24_7 : e_Y := u_jmp y_ge (u_old2 (o_clt 10 27) 10 n_24_10 n_24_27) n_24_10 n_24_27
theorem t_24_7 : e_Sn 24 7 (e_un n_24_7) := u_cltT rfl (s_cge (off := (20)) hq_24 (by decide +kernel) rfl rfl : e_Sn 24 7 (o_clt 10 27)) t_24_10 t_24_27
noncomputable def n_24_5 : e_Y := u_push (.inl 2147483654) n_24_7
theorem t_24_5 : e_Sn 24 5 (e_un n_24_5) := u_pushT (s_bipush (n := (6)) hq_24 (by decide +kernel) rfl ⟨by decide +kernel, by decide +kernel⟩ : e_Sn 24 5 (o_push (.inl 2147483654) 7)) t_24_7
noncomputable def n_24_4 : e_Y := u_ld f_okI f_l3 n_24_5
theorem t_24_4 : e_Sn 24 4 (e_un n_24_4) := u_ldIT f_l3_eq (s_iload (i := .iload_n 3) (len := 1) hq_24 (by decide +kernel) rfl (.inr ⟨3, rfl, rfl, rfl⟩) : e_Sn 24 4 (o_load e_okI 3 5)) t_24_5
noncomputable def n_24_3 : e_Y := u_st f_okI f_s3 n_24_4
theorem t_24_3 : e_Sn 24 3 (e_un n_24_3) := u_stIT (fun _ _ _ => f_s3_eq) (s_istore (i := .istore_n 3) (len := 1) hq_24 (by decide +kernel) rfl (.inr ⟨3, rfl, rfl, rfl⟩) : e_Sn 24 3 (o_store e_okI 3 4)) t_24_4
noncomputable def n_24_2 : e_Y := u_push (.inl 2147483648) n_24_3
theorem t_24_2 : e_Sn 24 2 (e_un n_24_2) := u_pushT (s_iconst (n := (0)) hq_24 (by decide +kernel) rfl ⟨by decide +kernel, by decide +kernel⟩ : e_Sn 24 2 (o_push (.inl 2147483648) 3)) t_24_3
noncomputable def n_24_1 : e_Y := u_st f_okI f_s2 n_24_2
theorem t_24_1 : e_Sn 24 1 (e_un n_24_1) := u_stIT (fun _ _ _ => f_s2_eq) (s_istore (i := .istore_n 2) (len := 1) hq_24 (by decide +kernel) rfl (.inr ⟨2, rfl, rfl, rfl⟩) : e_Sn 24 1 (o_store e_okI 2 2)) t_24_2
noncomputable def nb_24 : e_Y := u_push (.inl 2147483648) n_24_1
theorem tb_24 : e_Sn 24 0 (e_un nb_24) := u_pushT (s_iconst (n := (0)) hq_24 (by decide +kernel) rfl ⟨by decide +kernel, by decide +kernel⟩ : e_Sn 24 0 (o_push (.inl 2147483648) 1)) t_24_1
noncomputable def n_24_0 : e_Y := rq_nd (rq_takO (some (e_un nb_24)))
theorem t_24_0 : e_Sn 24 0 (e_un n_24_0) := rq_ndT (rq_takT (fun o h => by cases h; exact tb_24))
noncomputable def e_tb_24 : e_X := (e_br 4 (e_lf 0 (e_un n_24_0)) (e_br 38 (e_lf 4 (e_un n_24_4)) (e_lf 38 (e_un n_24_38))))
theorem e_tk_24 : e_Tb 24 e_tb_24 := (e_brT (e_lfT t_24_0) (e_brT (e_lfT t_24_4) (e_lfT t_24_38)))
theorem hq_16 : (e_ml[16]?).map (·.2.1) = some prog_3_method_12_code := Eq.trans (congrArg (Option.map (fun e => e.2.1)) hy_16) rfl
theorem ho_16 : (e_ml[16]?).map (·.1.cls) = some "Plateroomprinter$Engine" := Eq.trans (congrArg (Option.map (fun e => e.1.cls)) hy_16) rfl
theorem hr_16 : (e_ml[16]?).map (·.2.2.2) = some (some .int) := Eq.trans (congrArg (Option.map (fun e => e.2.2.2)) hy_16) rfl
noncomputable def n_16_85 : e_Y := u_retI
theorem t_16_85 : e_Sn 16 85 (e_un n_16_85) := u_retIT (s_iret hq_16 hr_16 (by decide +kernel) : e_Sn 16 85 (o_ret e_okI))
noncomputable def n_16_82 : e_Y := u_callV 2 15 2 21 2 n_15_0 n_16_85
theorem t_16_82 : e_Sn 16 82 (e_un n_16_82) := u_callVT rfl (s_callV (ci := 2) (C := er_2) (T := et_2) (N := 19) (index := 159) hq_16 ho_16 hy_15 hp_15 hc_15 hi_15 hd_15 (r_k4 (List.mem_of_getElem? (i := 11) (by decide +kernel))) hs_15 (List.mem_of_getElem? (i := 6) (by decide +kernel)) rfl (by decide +kernel) rfl : e_Sn 16 82 (o_callV (e_s1 2 15 2) 2 85)) t_15_0 t_16_85
noncomputable def n_16_81 : e_Y := u_ld f_okI f_l1 n_16_82
theorem t_16_81 : e_Sn 16 81 (e_un n_16_81) := u_ldIT f_l1_eq (s_iload (i := .iload_n 1) (len := 1) hq_16 (by decide +kernel) rfl (.inr ⟨1, rfl, rfl, rfl⟩) : e_Sn 16 81 (o_load e_okI 1 82)) t_16_82
noncomputable def n_16_80 : e_Y := u_ld f_okA f_l0 n_16_81
theorem t_16_80 : e_Sn 16 80 (e_un n_16_80) := u_ldAT f_l0_eq (s_aload (i := .aload_n 0) (len := 1) hq_16 (by decide +kernel) rfl (.inr ⟨0, rfl, rfl, rfl⟩) : e_Sn 16 80 (o_load e_okR 0 81)) t_16_81
noncomputable def n_16_57 : e_Y := u_jmp y_ge (u_old2 (o_clt 60 80) 60 (u_at 60) n_16_80) (u_at 60) n_16_80
theorem t_16_57 : e_Sn 16 57 (e_un n_16_57) := u_cltT rfl (s_cge (off := (23)) hq_16 (by decide +kernel) rfl rfl : e_Sn 16 57 (o_clt 60 80)) u_atT t_16_80
noncomputable def n_16_55 : e_Y := u_push (.inl 2147483657) n_16_57
theorem t_16_55 : e_Sn 16 55 (e_un n_16_55) := u_pushT (s_bipush (n := (9)) hq_16 (by decide +kernel) rfl ⟨by decide +kernel, by decide +kernel⟩ : e_Sn 16 55 (o_push (.inl 2147483657) 57)) t_16_57
noncomputable def n_16_54 : e_Y := u_ld f_okI f_l1 n_16_55
theorem t_16_54 : e_Sn 16 54 (e_un n_16_54) := u_ldIT f_l1_eq (s_iload (i := .iload_n 1) (len := 1) hq_16 (by decide +kernel) rfl (.inr ⟨1, rfl, rfl, rfl⟩) : e_Sn 16 54 (o_load e_okI 1 55)) t_16_55
noncomputable def n_16_53 : e_Y := u_retI
theorem t_16_53 : e_Sn 16 53 (e_un n_16_53) := u_retIT (s_iret hq_16 hr_16 (by decide +kernel) : e_Sn 16 53 (o_ret e_okI))
noncomputable def n_16_52 : e_Y := u_push (.inl 2147483648) n_16_53
theorem t_16_52 : e_Sn 16 52 (e_un n_16_52) := u_pushT (s_iconst (n := (0)) hq_16 (by decide +kernel) rfl ⟨by decide +kernel, by decide +kernel⟩ : e_Sn 16 52 (o_push (.inl 2147483648) 53)) t_16_53
noncomputable def n_16_49 : e_Y := u_putf 2 16 f_okI (u_old (o_putf (e_f1 2 16) e_okI 52) n_16_52) n_16_52
theorem t_16_49 : e_Sn 16 49 (e_un n_16_49) := u_putfT (fun _ => f_okI_eq) (s_putf (ty0 := ey_2) (ok := e_okI) (C := er_2) (T := et_2) (N := 19) (ref := "Plateroomprinter$Engine") (index := 109) (ci := 2) (k := 16) hq_16 ho_16 ⟨rfl, by decide, ei_2, r_m_3_17, .inl rfl⟩ eo_2 en_2 e_oksI (.inl rfl) (by decide +kernel) rfl : e_Sn 16 49 (o_putf (e_f1 2 16) e_okI 52)) t_16_52
noncomputable def n_16_48 : e_Y := u_ld f_okI f_l1 n_16_49
theorem t_16_48 : e_Sn 16 48 (e_un n_16_48) := u_ldIT f_l1_eq (s_iload (i := .iload_n 1) (len := 1) hq_16 (by decide +kernel) rfl (.inr ⟨1, rfl, rfl, rfl⟩) : e_Sn 16 48 (o_load e_okI 1 49)) t_16_49
noncomputable def n_16_47 : e_Y := u_ld f_okA f_l0 n_16_48
theorem t_16_47 : e_Sn 16 47 (e_un n_16_47) := u_ldAT f_l0_eq (s_aload (i := .aload_n 0) (len := 1) hq_16 (by decide +kernel) rfl (.inr ⟨0, rfl, rfl, rfl⟩) : e_Sn 16 47 (o_load e_okR 0 48)) t_16_48
noncomputable def n_16_44 : e_Y := u_jmp y_le (u_old2 (o_cgt 47 54) 47 n_16_47 n_16_54) n_16_47 n_16_54
theorem t_16_44 : e_Sn 16 44 (e_un n_16_44) := u_cgtT rfl (s_cle (off := (10)) hq_16 (by decide +kernel) rfl rfl : e_Sn 16 44 (o_cgt 47 54)) t_16_47 t_16_54
noncomputable def n_16_42 : e_Y := u_push (.inl 2147483668) n_16_44
theorem t_16_42 : e_Sn 16 42 (e_un n_16_42) := u_pushT (s_bipush (n := (20)) hq_16 (by decide +kernel) rfl ⟨by decide +kernel, by decide +kernel⟩ : e_Sn 16 42 (o_push (.inl 2147483668) 44)) t_16_44
noncomputable def n_16_41 : e_Y := u_ld f_okI f_l1 n_16_42
theorem t_16_41 : e_Sn 16 41 (e_un n_16_41) := u_ldIT f_l1_eq (s_iload (i := .iload_n 1) (len := 1) hq_16 (by decide +kernel) rfl (.inr ⟨1, rfl, rfl, rfl⟩) : e_Sn 16 41 (o_load e_okI 1 42)) t_16_42
noncomputable def n_16_40 : e_Y := u_ast 0 f_okI (u_old (o_ast 0 e_okI 41) n_16_41) n_16_41
theorem t_16_40 : e_Sn 16 40 (e_un n_16_40) := u_astT (fun _ => f_okI_eq) (s_iast hq_16 (by decide +kernel) rfl : e_Sn 16 40 (o_ast 0 e_okI 41)) t_16_41
noncomputable def n_16_39 : e_Y := u_bin a_iadd (u_old (o_iadd 40) n_16_40) n_16_40
theorem t_16_39 : e_Sn 16 39 (e_un n_16_39) := u_iaddT (s_iadd hq_16 (by decide +kernel) rfl : e_Sn 16 39 (o_iadd 40)) t_16_40
noncomputable def n_16_38 : e_Y := u_push (.inl 2147483649) n_16_39
theorem t_16_38 : e_Sn 16 38 (e_un n_16_38) := u_pushT (s_iconst (n := (1)) hq_16 (by decide +kernel) rfl ⟨by decide +kernel, by decide +kernel⟩ : e_Sn 16 38 (o_push (.inl 2147483649) 39)) t_16_39
noncomputable def n_16_37 : e_Y := u_ald 0 (u_old (o_ald e_fcs 38) n_16_38) n_16_38
theorem t_16_37 : e_Sn 16 37 (e_un n_16_37) := u_aldT (s_iald hq_16 (by decide +kernel) rfl : e_Sn 16 37 (o_ald e_fcs 38)) t_16_38
noncomputable def n_16_36 : e_Y := u_old (o_dup2 37) n_16_37
theorem t_16_36 : e_Sn 16 36 (e_un n_16_36) := u_oldT (s_dup2 hq_16 (by decide +kernel) rfl : e_Sn 16 36 (o_dup2 37)) t_16_37 e_cg_dup2
noncomputable def n_16_35 : e_Y := u_ld f_okI f_l1 n_16_36
theorem t_16_35 : e_Sn 16 35 (e_un n_16_35) := u_ldIT f_l1_eq (s_iload (i := .iload_n 1) (len := 1) hq_16 (by decide +kernel) rfl (.inr ⟨1, rfl, rfl, rfl⟩) : e_Sn 16 35 (o_load e_okI 1 36)) t_16_36
noncomputable def n_16_32 : e_Y := u_getf 11 11 (u_old (o_getf (e_f1 11 11) 35) n_16_35) n_16_35
theorem t_16_32 : e_Sn 16 32 (e_un n_16_32) := u_getfT (s_getf (C := er_11) (T := et_11) (N := 15) (ref := "Plateroomprinter$World") (index := 153) (ci := 11) (k := 11) hq_16 ho_16 ⟨rfl, by decide, ei_11, (r_k2 (List.mem_of_getElem? (i := 115) (by decide +kernel))), .inl rfl⟩ (by decide +kernel) rfl : e_Sn 16 32 (o_getf (e_f1 11 11) 35)) t_16_35
noncomputable def n_16_29 : e_Y := u_getf 2 0 (u_old (o_getf (e_f1 2 0) 32) n_16_32) n_16_32
theorem t_16_29 : e_Sn 16 29 (e_un n_16_29) := u_getfT (s_getf (C := er_2) (T := et_2) (N := 19) (ref := "Plateroomprinter$Engine") (index := 45) (ci := 2) (k := 0) hq_16 ho_16 ⟨rfl, by decide, ei_2, r_m_2_239, .inl rfl⟩ (by decide +kernel) rfl : e_Sn 16 29 (o_getf (e_f1 2 0) 32)) t_16_32
noncomputable def n_16_28 : e_Y := u_ld f_okA f_l0 n_16_29
theorem t_16_28 : e_Sn 16 28 (e_un n_16_28) := u_ldAT f_l0_eq (s_aload (i := .aload_n 0) (len := 1) hq_16 (by decide +kernel) rfl (.inr ⟨0, rfl, rfl, rfl⟩) : e_Sn 16 28 (o_load e_okR 0 29)) t_16_29
noncomputable def n_16_23 : e_Y := u_if y_ne0 (u_old2 (o_ifeq 28 26) 28 n_16_28 (u_at 26)) n_16_28 (u_at 26)
theorem t_16_23 : e_Sn 16 23 (e_un n_16_23) := u_ifeqT rfl (s_ifeq (off := (5)) hq_16 (by decide +kernel) rfl rfl : e_Sn 16 23 (o_ifeq 28 26)) t_16_28 u_atT
noncomputable def n_16_22 : e_Y := u_ld f_okI f_l2 n_16_23
theorem t_16_22 : e_Sn 16 22 (e_un n_16_22) := u_ldIT f_l2_eq (s_iload (i := .iload_n 2) (len := 1) hq_16 (by decide +kernel) rfl (.inr ⟨2, rfl, rfl, rfl⟩) : e_Sn 16 22 (o_load e_okI 2 23)) t_16_23
noncomputable def n_16_21 : e_Y := u_st f_okI f_s2 n_16_22
theorem t_16_21 : e_Sn 16 21 (e_un n_16_21) := u_stIT (fun _ _ _ => f_s2_eq) (s_istore (i := .istore_n 2) (len := 1) hq_16 (by decide +kernel) rfl (.inr ⟨2, rfl, rfl, rfl⟩) : e_Sn 16 21 (o_store e_okI 2 22)) t_16_22
noncomputable def n_16_18 : e_Y := u_callV 2 24 7 26 2 n_24_0 n_16_21
theorem t_16_18 : e_Sn 16 18 (e_un n_16_18) := u_callVT rfl (s_callV (ci := 2) (C := er_2) (T := et_2) (N := 19) (index := 150) hq_16 ho_16 hy_24 hp_24 hc_24 hi_24 hd_24 (r_k4 (List.mem_of_getElem? (i := 0) (by decide +kernel))) hs_24 (List.mem_of_getElem? (i := 5) (by decide +kernel)) rfl (by decide +kernel) rfl : e_Sn 16 18 (o_callV (e_s1 2 24 7) 2 21)) t_24_0 t_16_21
noncomputable def n_16_17 : e_Y := u_ald 0 (u_old (o_ald e_fcs 18) n_16_18) n_16_18
theorem t_16_17 : e_Sn 16 17 (e_un n_16_17) := u_aldT (s_iald hq_16 (by decide +kernel) rfl : e_Sn 16 17 (o_ald e_fcs 18)) t_16_18
noncomputable def n_16_16 : e_Y := u_ld f_okI f_l1 n_16_17
theorem t_16_16 : e_Sn 16 16 (e_un n_16_16) := u_ldIT f_l1_eq (s_iload (i := .iload_n 1) (len := 1) hq_16 (by decide +kernel) rfl (.inr ⟨1, rfl, rfl, rfl⟩) : e_Sn 16 16 (o_load e_okI 1 17)) t_16_17
noncomputable def n_16_13 : e_Y := u_push (e_B 1) n_16_16
theorem t_16_13 : e_Sn 16 13 (e_un n_16_13) := u_pushT (s_gets (k := 1) (index := 147) (C := "Plateroomprinter$Engine") (f := "OPERANDS") (d := "[I") hq_16 ho_16 (r_k3 (List.mem_of_getElem? (i := 238) (by decide +kernel))) (by simp [e_sv]) (by decide +kernel) rfl : e_Sn 16 13 (o_push (e_B 1) 16)) t_16_16
noncomputable def n_16_12 : e_Y := u_ld f_okA f_l0 n_16_13
theorem t_16_12 : e_Sn 16 12 (e_un n_16_12) := u_ldAT f_l0_eq (s_aload (i := .aload_n 0) (len := 1) hq_16 (by decide +kernel) rfl (.inr ⟨0, rfl, rfl, rfl⟩) : e_Sn 16 12 (o_load e_okR 0 13)) t_16_13
noncomputable def n_16_7 : e_Y := u_jmp y_ge (u_old2 (o_clt 12 10) 12 n_16_12 (u_at 10)) n_16_12 (u_at 10)
theorem t_16_7 : e_Sn 16 7 (e_un n_16_7) := u_cltT rfl (s_clt (off := (5)) hq_16 (by decide +kernel) rfl rfl : e_Sn 16 7 (o_clt 12 10)) t_16_12 u_atT
noncomputable def n_16_5 : e_Y := u_push (.inl 2147483701) n_16_7
theorem t_16_5 : e_Sn 16 5 (e_un n_16_5) := u_pushT (s_bipush (n := (53)) hq_16 (by decide +kernel) rfl ⟨by decide +kernel, by decide +kernel⟩ : e_Sn 16 5 (o_push (.inl 2147483701) 7)) t_16_7
noncomputable def n_16_4 : e_Y := u_ld f_okI f_l1 n_16_5
theorem t_16_4 : e_Sn 16 4 (e_un n_16_4) := u_ldIT f_l1_eq (s_iload (i := .iload_n 1) (len := 1) hq_16 (by decide +kernel) rfl (.inr ⟨1, rfl, rfl, rfl⟩) : e_Sn 16 4 (o_load e_okI 1 5)) t_16_5
noncomputable def n_16_1 : e_Y := u_if y_ge0 (u_old2 (o_iflt 10 4) 10 (u_at 10) n_16_4) (u_at 10) n_16_4
theorem t_16_1 : e_Sn 16 1 (e_un n_16_1) := u_ifltT rfl (s_iflt (off := (9)) hq_16 (by decide +kernel) rfl rfl : e_Sn 16 1 (o_iflt 10 4)) u_atT t_16_4
noncomputable def n_16_0 : e_Y := u_ld f_okI f_l1 n_16_1
theorem t_16_0 : e_Sn 16 0 (e_un n_16_0) := u_ldIT f_l1_eq (s_iload (i := .iload_n 1) (len := 1) hq_16 (by decide +kernel) rfl (.inr ⟨1, rfl, rfl, rfl⟩) : e_Sn 16 0 (o_load e_okI 1 1)) t_16_1
noncomputable def e_tb_16 : e_X := (e_lf 0 (e_un n_16_0))
theorem e_tk_16 : e_Tb 16 e_tb_16 := (e_lfT t_16_0)
theorem hq_9 : (e_ml[9]?).map (·.2.1) = some prog_2_method_5_code := Eq.trans (congrArg (Option.map (fun e => e.2.1)) hy_9) rfl
theorem ho_9 : (e_ml[9]?).map (·.1.cls) = some "Plateroomprinter$Code" := Eq.trans (congrArg (Option.map (fun e => e.1.cls)) hy_9) rfl
theorem hr_9 : (e_ml[9]?).map (·.2.2.2) = some (some .int) := Eq.trans (congrArg (Option.map (fun e => e.2.2.2)) hy_9) rfl
noncomputable def n_9_66 : e_Y := (u_at 18)
theorem t_9_66 : e_Sn 9 66 (e_un n_9_66) := u_gotoT (s_goto (off := (-48)) hq_9 (by decide +kernel) rfl : e_Sn 9 66 (o_goto 18)) u_atT
noncomputable def n_9_63 : e_Y := u_inc f_l5 f_s5 1 n_9_66
theorem t_9_63 : e_Sn 9 63 (e_un n_9_63) := u_incT f_l5_eq (fun _ _ _ => f_s5_eq) (s_iinc (zz := (1)) hq_9 (by decide +kernel) rfl (by decide +kernel) ⟨by decide, by decide⟩ : e_Sn 9 63 (o_iinc 5 1 66)) t_9_66
noncomputable def n_9_62 : e_Y := u_retI
theorem t_9_62 : e_Sn 9 62 (e_un n_9_62) := u_retIT (s_iret hq_9 hr_9 (by decide +kernel) : e_Sn 9 62 (o_ret e_okI))
noncomputable def n_9_60 : e_Y := u_ld f_okI f_l5 n_9_62
theorem t_9_60 : e_Sn 9 60 (e_un n_9_60) := u_ldIT f_l5_eq (s_iload (i := .iload 5) (len := 2) hq_9 (by decide +kernel) rfl (.inl ⟨rfl, rfl⟩) : e_Sn 9 60 (o_load e_okI 5 62)) t_9_62
noncomputable def n_9_57 : e_Y := u_if y_ne0 (u_old2 (o_ifeq 60 63) 60 n_9_60 n_9_63) n_9_60 n_9_63
theorem t_9_57 : e_Sn 9 57 (e_un n_9_57) := u_ifeqT rfl (s_ifne (off := (6)) hq_9 (by decide +kernel) rfl rfl : e_Sn 9 57 (o_ifeq 60 63)) t_9_60 t_9_63
noncomputable def n_9_56 : e_Y := u_ld f_okI f_l3 n_9_57
theorem t_9_56 : e_Sn 9 56 (e_un n_9_56) := u_ldIT f_l3_eq (s_iload (i := .iload_n 3) (len := 1) hq_9 (by decide +kernel) rfl (.inr ⟨3, rfl, rfl, rfl⟩) : e_Sn 9 56 (o_load e_okI 3 57)) t_9_57
noncomputable def n_9_53 : e_Y := u_inc f_l3 f_s3 4294967295 n_9_56
theorem t_9_53 : e_Sn 9 53 (e_un n_9_53) := u_incT f_l3_eq (fun _ _ _ => f_s3_eq) (s_iinc (zz := (-1)) hq_9 (by decide +kernel) rfl (by decide +kernel) ⟨by decide, by decide⟩ : e_Sn 9 53 (o_iinc 3 4294967295 56)) t_9_56
noncomputable def n_9_50 : e_Y := u_jmp y_ne (u_old2 (o_ceq 53 63) 53 n_9_53 n_9_63) n_9_53 n_9_63
theorem t_9_50 : e_Sn 9 50 (e_un n_9_50) := u_ceqT rfl (s_cne (off := (13)) hq_9 (by decide +kernel) rfl rfl : e_Sn 9 50 (o_ceq 53 63)) t_9_53 t_9_63
noncomputable def n_9_49 : e_Y := u_push (.inl 2147483653) n_9_50
theorem t_9_49 : e_Sn 9 49 (e_un n_9_49) := u_pushT (s_iconst (n := (5)) hq_9 (by decide +kernel) rfl ⟨by decide +kernel, by decide +kernel⟩ : e_Sn 9 49 (o_push (.inl 2147483653) 50)) t_9_50
noncomputable def n_9_48 : e_Y := u_ald 0 (u_old (o_ald e_fcs 49) n_9_49) n_9_49
theorem t_9_48 : e_Sn 9 48 (e_un n_9_48) := u_aldT (s_iald hq_9 (by decide +kernel) rfl : e_Sn 9 48 (o_ald e_fcs 49)) t_9_49
noncomputable def n_9_46 : e_Y := u_ld f_okI f_l5 n_9_48
theorem t_9_46 : e_Sn 9 46 (e_un n_9_46) := u_ldIT f_l5_eq (s_iload (i := .iload 5) (len := 2) hq_9 (by decide +kernel) rfl (.inl ⟨rfl, rfl⟩) : e_Sn 9 46 (o_load e_okI 5 48)) t_9_48
noncomputable def n_9_43 : e_Y := u_getf 1 0 (u_old (o_getf (e_f1 1 0) 46) n_9_46) n_9_46
theorem t_9_43 : e_Sn 9 43 (e_un n_9_43) := u_getfT (s_getf (C := er_1) (T := et_1) (N := 4) (ref := "Plateroomprinter$Code") (index := 11) (ci := 1) (k := 0) hq_9 ho_9 ⟨rfl, by decide, ei_1, r_m_1_61, .inl rfl⟩ (by decide +kernel) rfl : e_Sn 9 43 (o_getf (e_f1 1 0) 46)) t_9_46
noncomputable def n_9_42 : e_Y := u_ld f_okA f_l0 n_9_43
theorem t_9_42 : e_Sn 9 42 (e_un n_9_42) := u_ldAT f_l0_eq (s_aload (i := .aload_n 0) (len := 1) hq_9 (by decide +kernel) rfl (.inr ⟨0, rfl, rfl, rfl⟩) : e_Sn 9 42 (o_load e_okR 0 43)) t_9_43
noncomputable def n_9_39 : e_Y := n_9_63
theorem t_9_39 : e_Sn 9 39 (e_un n_9_39) := u_gotoT (s_goto (off := (24)) hq_9 (by decide +kernel) rfl : e_Sn 9 39 (o_goto 63)) t_9_63
noncomputable def n_9_36 : e_Y := u_inc f_l3 f_s3 1 n_9_39
theorem t_9_36 : e_Sn 9 36 (e_un n_9_36) := u_incT f_l3_eq (fun _ _ _ => f_s3_eq) (s_iinc (zz := (1)) hq_9 (by decide +kernel) rfl (by decide +kernel) ⟨by decide, by decide⟩ : e_Sn 9 36 (o_iinc 3 1 39)) t_9_39
noncomputable def n_9_33 : e_Y := u_jmp y_ne (u_old2 (o_ceq 36 42) 36 n_9_36 n_9_42) n_9_36 n_9_42
theorem t_9_33 : e_Sn 9 33 (e_un n_9_33) := u_ceqT rfl (s_cne (off := (9)) hq_9 (by decide +kernel) rfl rfl : e_Sn 9 33 (o_ceq 36 42)) t_9_36 t_9_42
noncomputable def n_9_32 : e_Y := u_push (.inl 2147483652) n_9_33
theorem t_9_32 : e_Sn 9 32 (e_un n_9_32) := u_pushT (s_iconst (n := (4)) hq_9 (by decide +kernel) rfl ⟨by decide +kernel, by decide +kernel⟩ : e_Sn 9 32 (o_push (.inl 2147483652) 33)) t_9_33
noncomputable def n_9_31 : e_Y := u_ald 0 (u_old (o_ald e_fcs 32) n_9_32) n_9_32
theorem t_9_31 : e_Sn 9 31 (e_un n_9_31) := u_aldT (s_iald hq_9 (by decide +kernel) rfl : e_Sn 9 31 (o_ald e_fcs 32)) t_9_32
noncomputable def n_9_29 : e_Y := u_ld f_okI f_l5 n_9_31
theorem t_9_29 : e_Sn 9 29 (e_un n_9_29) := u_ldIT f_l5_eq (s_iload (i := .iload 5) (len := 2) hq_9 (by decide +kernel) rfl (.inl ⟨rfl, rfl⟩) : e_Sn 9 29 (o_load e_okI 5 31)) t_9_31
noncomputable def n_9_26 : e_Y := u_getf 1 0 (u_old (o_getf (e_f1 1 0) 29) n_9_29) n_9_29
theorem t_9_26 : e_Sn 9 26 (e_un n_9_26) := u_getfT (s_getf (C := er_1) (T := et_1) (N := 4) (ref := "Plateroomprinter$Code") (index := 11) (ci := 1) (k := 0) hq_9 ho_9 ⟨rfl, by decide, ei_1, r_m_1_61, .inl rfl⟩ (by decide +kernel) rfl : e_Sn 9 26 (o_getf (e_f1 1 0) 29)) t_9_29
noncomputable def n_9_25 : e_Y := u_ld f_okA f_l0 n_9_26
theorem t_9_25 : e_Sn 9 25 (e_un n_9_25) := u_ldAT f_l0_eq (s_aload (i := .aload_n 0) (len := 1) hq_9 (by decide +kernel) rfl (.inr ⟨0, rfl, rfl, rfl⟩) : e_Sn 9 25 (o_load e_okR 0 26)) t_9_26
noncomputable def n_9_22 : e_Y := u_jmp y_ge (u_old2 (o_clt 25 69) 25 n_9_25 (u_at 69)) n_9_25 (u_at 69)
theorem t_9_22 : e_Sn 9 22 (e_un n_9_22) := u_cltT rfl (s_cge (off := (47)) hq_9 (by decide +kernel) rfl rfl : e_Sn 9 22 (o_clt 25 69)) t_9_25 u_atT
noncomputable def n_9_20 : e_Y := u_ld f_okI f_l4 n_9_22
theorem t_9_20 : e_Sn 9 20 (e_un n_9_20) := u_ldIT f_l4_eq (s_iload (i := .iload 4) (len := 2) hq_9 (by decide +kernel) rfl (.inl ⟨rfl, rfl⟩) : e_Sn 9 20 (o_load e_okI 4 22)) t_9_22
noncomputable def n_9_18 : e_Y := u_ld f_okI f_l5 n_9_20
theorem t_9_18 : e_Sn 9 18 (e_un n_9_18) := u_ldIT f_l5_eq (s_iload (i := .iload 5) (len := 2) hq_9 (by decide +kernel) rfl (.inl ⟨rfl, rfl⟩) : e_Sn 9 18 (o_load e_okI 5 20)) t_9_20
noncomputable def n_9_16 : e_Y := u_st f_okI f_s5 n_9_18
theorem t_9_16 : e_Sn 9 16 (e_un n_9_16) := u_stIT (fun _ _ _ => f_s5_eq) (s_istore (i := .istore 5) (len := 2) hq_9 (by decide +kernel) rfl (.inl ⟨rfl, rfl⟩) : e_Sn 9 16 (o_store e_okI 5 18)) t_9_18
noncomputable def n_9_13 : e_Y := u_tab (o_mmax 16)
theorem t_9_13 : e_Sn 9 13 (e_un n_9_13) := u_tabT (s_mmax (index := 31) hq_9 ho_9 (r_k3 (List.mem_of_getElem? (i := 233) (by decide +kernel))) r_m_1_92 r_m_1_5 r_m_1_93 (by decide +kernel) rfl : e_Sn 9 13 (o_mmax 16))
noncomputable def n_9_12 : e_Y := u_ld f_okI f_l1 n_9_13
theorem t_9_12 : e_Sn 9 12 (e_un n_9_12) := u_ldIT f_l1_eq (s_iload (i := .iload_n 1) (len := 1) hq_9 (by decide +kernel) rfl (.inr ⟨1, rfl, rfl, rfl⟩) : e_Sn 9 12 (o_load e_okI 1 13)) t_9_13
noncomputable def n_9_11 : e_Y := u_push (.inl 2147483648) n_9_12
theorem t_9_11 : e_Sn 9 11 (e_un n_9_11) := u_pushT (s_iconst (n := (0)) hq_9 (by decide +kernel) rfl ⟨by decide +kernel, by decide +kernel⟩ : e_Sn 9 11 (o_push (.inl 2147483648) 12)) t_9_12
noncomputable def n_9_9 : e_Y := u_st f_okI f_s4 n_9_11
theorem t_9_9 : e_Sn 9 9 (e_un n_9_9) := u_stIT (fun _ _ _ => f_s4_eq) (s_istore (i := .istore 4) (len := 2) hq_9 (by decide +kernel) rfl (.inl ⟨rfl, rfl⟩) : e_Sn 9 9 (o_store e_okI 4 11)) t_9_11
noncomputable def n_9_6 : e_Y := u_tab (o_mmin 9)
theorem t_9_6 : e_Sn 9 6 (e_un n_9_6) := u_tabT (s_mmin (index := 25) hq_9 ho_9 (r_k3 (List.mem_of_getElem? (i := 232) (by decide +kernel))) r_m_2_48 r_m_1_5 r_m_2_49 (by decide +kernel) rfl : e_Sn 9 6 (o_mmin 9))
noncomputable def n_9_3 : e_Y := u_push (.inl 2147485648) n_9_6
theorem t_9_3 : e_Sn 9 3 (e_un n_9_3) := u_pushT (s_sipush (n := (2000)) hq_9 (by decide +kernel) rfl ⟨by decide +kernel, by decide +kernel⟩ : e_Sn 9 3 (o_push (.inl 2147485648) 6)) t_9_6
noncomputable def n_9_2 : e_Y := u_ld f_okI f_l2 n_9_3
theorem t_9_2 : e_Sn 9 2 (e_un n_9_2) := u_ldIT f_l2_eq (s_iload (i := .iload_n 2) (len := 1) hq_9 (by decide +kernel) rfl (.inr ⟨2, rfl, rfl, rfl⟩) : e_Sn 9 2 (o_load e_okI 2 3)) t_9_3
noncomputable def n_9_1 : e_Y := u_st f_okI f_s3 n_9_2
theorem t_9_1 : e_Sn 9 1 (e_un n_9_1) := u_stIT (fun _ _ _ => f_s3_eq) (s_istore (i := .istore_n 3) (len := 1) hq_9 (by decide +kernel) rfl (.inr ⟨3, rfl, rfl, rfl⟩) : e_Sn 9 1 (o_store e_okI 3 2)) t_9_2
noncomputable def n_9_0 : e_Y := u_push (.inl 2147483649) n_9_1
theorem t_9_0 : e_Sn 9 0 (e_un n_9_0) := u_pushT (s_iconst (n := (1)) hq_9 (by decide +kernel) rfl ⟨by decide +kernel, by decide +kernel⟩ : e_Sn 9 0 (o_push (.inl 2147483649) 1)) t_9_1
noncomputable def e_tb_9 : e_X := (e_br 16 (e_br 9 (e_lf 0 (e_un n_9_0)) (e_lf 9 (e_un n_9_9))) (e_br 18 (e_lf 16 (e_un n_9_16)) (e_lf 18 (e_un n_9_18))))
theorem e_tk_9 : e_Tb 9 e_tb_9 := (e_brT (e_brT (e_lfT t_9_0) (e_lfT t_9_9)) (e_brT (e_lfT t_9_16) (e_lfT t_9_18)))
theorem hq_33 : (e_ml[33]?).map (·.2.1) = some prog_5_method_9_code := Eq.trans (congrArg (Option.map (fun e => e.2.1)) hy_33) rfl
theorem ho_33 : (e_ml[33]?).map (·.1.cls) = some "Plateroomprinter$Items" := Eq.trans (congrArg (Option.map (fun e => e.1.cls)) hy_33) rfl
theorem hr_33 : (e_ml[33]?).map (·.2.2.2) = some (some .int) := Eq.trans (congrArg (Option.map (fun e => e.2.2.2)) hy_33) rfl
noncomputable def n_33_62 : e_Y := u_retI
theorem t_33_62 : e_Sn 33 62 (e_un n_33_62) := u_retIT (s_iret hq_33 hr_33 (by decide +kernel) : e_Sn 33 62 (o_ret e_okI))
noncomputable def n_33_61 : e_Y := u_push (.inl 2147483648) n_33_62
theorem t_33_61 : e_Sn 33 61 (e_un n_33_61) := u_pushT (s_iconst (n := (0)) hq_33 (by decide +kernel) rfl ⟨by decide +kernel, by decide +kernel⟩ : e_Sn 33 61 (o_push (.inl 2147483648) 62)) t_33_62
noncomputable def n_33_58 : e_Y := u_putf 4 4 f_okI (u_old (o_putf (e_f1 4 4) e_okI 61) n_33_61) n_33_61
theorem t_33_58 : e_Sn 33 58 (e_un n_33_58) := u_putfT (fun _ => f_okI_eq) (s_putf (ty0 := ey_4) (ok := e_okI) (C := er_4) (T := et_4) (N := 5) (ref := "Plateroomprinter$Items") (index := 31) (ci := 4) (k := 4) hq_33 ho_33 ⟨rfl, by decide, ei_4, r_m_1_98, .inl rfl⟩ eo_4 en_4 e_oksI (.inl rfl) (by decide +kernel) rfl : e_Sn 33 58 (o_putf (e_f1 4 4) e_okI 61)) t_33_61
noncomputable def n_33_57 : e_Y := u_bin a_iadd (u_old (o_iadd 58) n_33_58) n_33_58
theorem t_33_57 : e_Sn 33 57 (e_un n_33_57) := u_iaddT (s_iadd hq_33 (by decide +kernel) rfl : e_Sn 33 57 (o_iadd 58)) t_33_58
noncomputable def n_33_56 : e_Y := u_push (.inl 2147483649) n_33_57
theorem t_33_56 : e_Sn 33 56 (e_un n_33_56) := u_pushT (s_iconst (n := (1)) hq_33 (by decide +kernel) rfl ⟨by decide +kernel, by decide +kernel⟩ : e_Sn 33 56 (o_push (.inl 2147483649) 57)) t_33_57
noncomputable def n_33_53 : e_Y := u_getf 4 4 (u_old (o_getf (e_f1 4 4) 56) n_33_56) n_33_56
theorem t_33_53 : e_Sn 33 53 (e_un n_33_53) := u_getfT (s_getf (C := er_4) (T := et_4) (N := 5) (ref := "Plateroomprinter$Items") (index := 31) (ci := 4) (k := 4) hq_33 ho_33 ⟨rfl, by decide, ei_4, r_m_1_98, .inl rfl⟩ (by decide +kernel) rfl : e_Sn 33 53 (o_getf (e_f1 4 4) 56)) t_33_56
noncomputable def n_33_52 : e_Y := u_old (o_dup 53) n_33_53
theorem t_33_52 : e_Sn 33 52 (e_un n_33_52) := u_oldT (s_dup hq_33 (by decide +kernel) rfl : e_Sn 33 52 (o_dup 53)) t_33_53 e_cg_dup
noncomputable def n_33_51 : e_Y := u_ld f_okA f_l0 n_33_52
theorem t_33_51 : e_Sn 33 51 (e_un n_33_51) := u_ldAT f_l0_eq (s_aload (i := .aload_n 0) (len := 1) hq_33 (by decide +kernel) rfl (.inr ⟨0, rfl, rfl, rfl⟩) : e_Sn 33 51 (o_load e_okR 0 52)) t_33_52
noncomputable def n_33_50 : e_Y := u_ast 0 f_okI (u_old (o_ast 0 e_okI 51) n_33_51) n_33_51
theorem t_33_50 : e_Sn 33 50 (e_un n_33_50) := u_astT (fun _ => f_okI_eq) (s_iast hq_33 (by decide +kernel) rfl : e_Sn 33 50 (o_ast 0 e_okI 51)) t_33_51
noncomputable def n_33_49 : e_Y := u_ld f_okI f_l3 n_33_50
theorem t_33_49 : e_Sn 33 49 (e_un n_33_49) := u_ldIT f_l3_eq (s_iload (i := .iload_n 3) (len := 1) hq_33 (by decide +kernel) rfl (.inr ⟨3, rfl, rfl, rfl⟩) : e_Sn 33 49 (o_load e_okI 3 50)) t_33_50
noncomputable def n_33_46 : e_Y := u_getf 4 4 (u_old (o_getf (e_f1 4 4) 49) n_33_49) n_33_49
theorem t_33_46 : e_Sn 33 46 (e_un n_33_46) := u_getfT (s_getf (C := er_4) (T := et_4) (N := 5) (ref := "Plateroomprinter$Items") (index := 31) (ci := 4) (k := 4) hq_33 ho_33 ⟨rfl, by decide, ei_4, r_m_1_98, .inl rfl⟩ (by decide +kernel) rfl : e_Sn 33 46 (o_getf (e_f1 4 4) 49)) t_33_49
noncomputable def n_33_45 : e_Y := u_ld f_okA f_l0 n_33_46
theorem t_33_45 : e_Sn 33 45 (e_un n_33_45) := u_ldAT f_l0_eq (s_aload (i := .aload_n 0) (len := 1) hq_33 (by decide +kernel) rfl (.inr ⟨0, rfl, rfl, rfl⟩) : e_Sn 33 45 (o_load e_okR 0 46)) t_33_46
noncomputable def n_33_42 : e_Y := u_getf 4 3 (u_old (o_getf (e_f1 4 3) 45) n_33_45) n_33_45
theorem t_33_42 : e_Sn 33 42 (e_un n_33_42) := u_getfT (s_getf (C := er_4) (T := et_4) (N := 5) (ref := "Plateroomprinter$Items") (index := 28) (ci := 4) (k := 3) hq_33 ho_33 ⟨rfl, by decide, ei_4, r_m_1_97, .inl rfl⟩ (by decide +kernel) rfl : e_Sn 33 42 (o_getf (e_f1 4 3) 45)) t_33_45
noncomputable def n_33_41 : e_Y := u_ld f_okA f_l0 n_33_42
theorem t_33_41 : e_Sn 33 41 (e_un n_33_41) := u_ldAT f_l0_eq (s_aload (i := .aload_n 0) (len := 1) hq_33 (by decide +kernel) rfl (.inr ⟨0, rfl, rfl, rfl⟩) : e_Sn 33 41 (o_load e_okR 0 42)) t_33_42
noncomputable def n_33_40 : e_Y := u_ast 0 f_okI (u_old (o_ast 0 e_okI 41) n_33_41) n_33_41
theorem t_33_40 : e_Sn 33 40 (e_un n_33_40) := u_astT (fun _ => f_okI_eq) (s_iast hq_33 (by decide +kernel) rfl : e_Sn 33 40 (o_ast 0 e_okI 41)) t_33_41
noncomputable def n_33_39 : e_Y := u_ld f_okI f_l2 n_33_40
theorem t_33_39 : e_Sn 33 39 (e_un n_33_39) := u_ldIT f_l2_eq (s_iload (i := .iload_n 2) (len := 1) hq_33 (by decide +kernel) rfl (.inr ⟨2, rfl, rfl, rfl⟩) : e_Sn 33 39 (o_load e_okI 2 40)) t_33_40
noncomputable def n_33_36 : e_Y := u_getf 4 4 (u_old (o_getf (e_f1 4 4) 39) n_33_39) n_33_39
theorem t_33_36 : e_Sn 33 36 (e_un n_33_36) := u_getfT (s_getf (C := er_4) (T := et_4) (N := 5) (ref := "Plateroomprinter$Items") (index := 31) (ci := 4) (k := 4) hq_33 ho_33 ⟨rfl, by decide, ei_4, r_m_1_98, .inl rfl⟩ (by decide +kernel) rfl : e_Sn 33 36 (o_getf (e_f1 4 4) 39)) t_33_39
noncomputable def n_33_35 : e_Y := u_ld f_okA f_l0 n_33_36
theorem t_33_35 : e_Sn 33 35 (e_un n_33_35) := u_ldAT f_l0_eq (s_aload (i := .aload_n 0) (len := 1) hq_33 (by decide +kernel) rfl (.inr ⟨0, rfl, rfl, rfl⟩) : e_Sn 33 35 (o_load e_okR 0 36)) t_33_36
noncomputable def n_33_32 : e_Y := u_getf 4 2 (u_old (o_getf (e_f1 4 2) 35) n_33_35) n_33_35
theorem t_33_32 : e_Sn 33 32 (e_un n_33_32) := u_getfT (s_getf (C := er_4) (T := et_4) (N := 5) (ref := "Plateroomprinter$Items") (index := 25) (ci := 4) (k := 2) hq_33 ho_33 ⟨rfl, by decide, ei_4, r_m_1_96, .inl rfl⟩ (by decide +kernel) rfl : e_Sn 33 32 (o_getf (e_f1 4 2) 35)) t_33_35
noncomputable def n_33_31 : e_Y := u_ld f_okA f_l0 n_33_32
theorem t_33_31 : e_Sn 33 31 (e_un n_33_31) := u_ldAT f_l0_eq (s_aload (i := .aload_n 0) (len := 1) hq_33 (by decide +kernel) rfl (.inr ⟨0, rfl, rfl, rfl⟩) : e_Sn 33 31 (o_load e_okR 0 32)) t_33_32
noncomputable def n_33_30 : e_Y := u_ast 0 f_okI (u_old (o_ast 0 e_okI 31) n_33_31) n_33_31
theorem t_33_30 : e_Sn 33 30 (e_un n_33_30) := u_astT (fun _ => f_okI_eq) (s_iast hq_33 (by decide +kernel) rfl : e_Sn 33 30 (o_ast 0 e_okI 31)) t_33_31
noncomputable def n_33_29 : e_Y := u_ld f_okI f_l1 n_33_30
theorem t_33_29 : e_Sn 33 29 (e_un n_33_29) := u_ldIT f_l1_eq (s_iload (i := .iload_n 1) (len := 1) hq_33 (by decide +kernel) rfl (.inr ⟨1, rfl, rfl, rfl⟩) : e_Sn 33 29 (o_load e_okI 1 30)) t_33_30
noncomputable def n_33_26 : e_Y := u_getf 4 4 (u_old (o_getf (e_f1 4 4) 29) n_33_29) n_33_29
theorem t_33_26 : e_Sn 33 26 (e_un n_33_26) := u_getfT (s_getf (C := er_4) (T := et_4) (N := 5) (ref := "Plateroomprinter$Items") (index := 31) (ci := 4) (k := 4) hq_33 ho_33 ⟨rfl, by decide, ei_4, r_m_1_98, .inl rfl⟩ (by decide +kernel) rfl : e_Sn 33 26 (o_getf (e_f1 4 4) 29)) t_33_29
noncomputable def n_33_25 : e_Y := u_ld f_okA f_l0 n_33_26
theorem t_33_25 : e_Sn 33 25 (e_un n_33_25) := u_ldAT f_l0_eq (s_aload (i := .aload_n 0) (len := 1) hq_33 (by decide +kernel) rfl (.inr ⟨0, rfl, rfl, rfl⟩) : e_Sn 33 25 (o_load e_okR 0 26)) t_33_26
noncomputable def n_33_22 : e_Y := u_getf 4 1 (u_old (o_getf (e_f1 4 1) 25) n_33_25) n_33_25
theorem t_33_22 : e_Sn 33 22 (e_un n_33_22) := u_getfT (s_getf (C := er_4) (T := et_4) (N := 5) (ref := "Plateroomprinter$Items") (index := 21) (ci := 4) (k := 1) hq_33 ho_33 ⟨rfl, by decide, ei_4, r_m_1_95, .inl rfl⟩ (by decide +kernel) rfl : e_Sn 33 22 (o_getf (e_f1 4 1) 25)) t_33_25
noncomputable def n_33_21 : e_Y := u_ld f_okA f_l0 n_33_22
theorem t_33_21 : e_Sn 33 21 (e_un n_33_21) := u_ldAT f_l0_eq (s_aload (i := .aload_n 0) (len := 1) hq_33 (by decide +kernel) rfl (.inr ⟨0, rfl, rfl, rfl⟩) : e_Sn 33 21 (o_load e_okR 0 22)) t_33_22
noncomputable def n_33_15 : e_Y := u_jmp y_ge (u_old2 (o_clt 21 18) 21 n_33_21 (u_at 18)) n_33_21 (u_at 18)
theorem t_33_15 : e_Sn 33 15 (e_un n_33_15) := u_cltT rfl (s_clt (off := (6)) hq_33 (by decide +kernel) rfl rfl : e_Sn 33 15 (o_clt 21 18)) t_33_21 u_atT
noncomputable def n_33_12 : e_Y := u_getf 4 0 (u_old (o_getf (e_f1 4 0) 15) n_33_15) n_33_15
theorem t_33_12 : e_Sn 33 12 (e_un n_33_12) := u_getfT (s_getf (C := er_4) (T := et_4) (N := 5) (ref := "Plateroomprinter$Items") (index := 15) (ci := 4) (k := 0) hq_33 ho_33 ⟨rfl, by decide, ei_4, r_m_1_94, .inl rfl⟩ (by decide +kernel) rfl : e_Sn 33 12 (o_getf (e_f1 4 0) 15)) t_33_15
noncomputable def n_33_11 : e_Y := u_ld f_okA f_l0 n_33_12
theorem t_33_11 : e_Sn 33 11 (e_un n_33_11) := u_ldAT f_l0_eq (s_aload (i := .aload_n 0) (len := 1) hq_33 (by decide +kernel) rfl (.inr ⟨0, rfl, rfl, rfl⟩) : e_Sn 33 11 (o_load e_okR 0 12)) t_33_12
noncomputable def n_33_8 : e_Y := u_getf 4 4 (u_old (o_getf (e_f1 4 4) 11) n_33_11) n_33_11
theorem t_33_8 : e_Sn 33 8 (e_un n_33_8) := u_getfT (s_getf (C := er_4) (T := et_4) (N := 5) (ref := "Plateroomprinter$Items") (index := 31) (ci := 4) (k := 4) hq_33 ho_33 ⟨rfl, by decide, ei_4, r_m_1_98, .inl rfl⟩ (by decide +kernel) rfl : e_Sn 33 8 (o_getf (e_f1 4 4) 11)) t_33_11
noncomputable def n_33_7 : e_Y := u_ld f_okA f_l0 n_33_8
theorem t_33_7 : e_Sn 33 7 (e_un n_33_7) := u_ldAT f_l0_eq (s_aload (i := .aload_n 0) (len := 1) hq_33 (by decide +kernel) rfl (.inr ⟨0, rfl, rfl, rfl⟩) : e_Sn 33 7 (o_load e_okR 0 8)) t_33_8
noncomputable def n_33_4 : e_Y := u_if y_ge0 (u_old2 (o_iflt 18 7) 18 (u_at 18) n_33_7) (u_at 18) n_33_7
theorem t_33_4 : e_Sn 33 4 (e_un n_33_4) := u_ifltT rfl (s_iflt (off := (14)) hq_33 (by decide +kernel) rfl rfl : e_Sn 33 4 (o_iflt 18 7)) u_atT t_33_7
noncomputable def n_33_1 : e_Y := u_getf 4 4 (u_old (o_getf (e_f1 4 4) 4) n_33_4) n_33_4
theorem t_33_1 : e_Sn 33 1 (e_un n_33_1) := u_getfT (s_getf (C := er_4) (T := et_4) (N := 5) (ref := "Plateroomprinter$Items") (index := 31) (ci := 4) (k := 4) hq_33 ho_33 ⟨rfl, by decide, ei_4, r_m_1_98, .inl rfl⟩ (by decide +kernel) rfl : e_Sn 33 1 (o_getf (e_f1 4 4) 4)) t_33_4
noncomputable def n_33_0 : e_Y := u_ld f_okA f_l0 n_33_1
theorem t_33_0 : e_Sn 33 0 (e_un n_33_0) := u_ldAT f_l0_eq (s_aload (i := .aload_n 0) (len := 1) hq_33 (by decide +kernel) rfl (.inr ⟨0, rfl, rfl, rfl⟩) : e_Sn 33 0 (o_load e_okR 0 1)) t_33_1
noncomputable def e_tb_33 : e_X := (e_lf 0 (e_un n_33_0))
theorem e_tk_33 : e_Tb 33 e_tb_33 := (e_lfT t_33_0)
theorem hq_20 : (e_ml[20]?).map (·.2.1) = some prog_3_method_10_code := Eq.trans (congrArg (Option.map (fun e => e.2.1)) hy_20) rfl
theorem ho_20 : (e_ml[20]?).map (·.1.cls) = some "Plateroomprinter$Engine" := Eq.trans (congrArg (Option.map (fun e => e.1.cls)) hy_20) rfl
theorem hr_20 : (e_ml[20]?).map (·.2.2.2) = some (some .int) := Eq.trans (congrArg (Option.map (fun e => e.2.2.2)) hy_20) rfl
noncomputable def n_20_67 : e_Y := u_retI
theorem t_20_67 : e_Sn 20 67 (e_un n_20_67) := u_retIT (s_iret hq_20 hr_20 (by decide +kernel) : e_Sn 20 67 (o_ret e_okI))
noncomputable def n_20_64 : e_Y := u_callV 4 33 4 23 4 n_33_0 n_20_67
theorem t_20_64 : e_Sn 20 64 (e_un n_20_64) := u_callVT rfl (s_callV (ci := 4) (C := er_4) (T := et_4) (N := 5) (index := 119) hq_20 ho_20 hy_33 hp_33 hc_33 hi_33 hd_33 r_m_3_207 hs_33 r_m_3_192 rfl (by decide +kernel) rfl : e_Sn 20 64 (o_callV (e_s1 4 33 4) 4 67)) t_33_0 t_20_67
noncomputable def n_20_63 : e_Y := u_bin a_isub (u_old (o_isub 64) n_20_64) n_20_64
theorem t_20_63 : e_Sn 20 63 (e_un n_20_63) := u_isubT (s_isub hq_20 (by decide +kernel) rfl : e_Sn 20 63 (o_isub 64)) t_20_64
noncomputable def n_20_62 : e_Y := u_ld f_okI f_l2 n_20_63
theorem t_20_62 : e_Sn 20 62 (e_un n_20_62) := u_ldIT f_l2_eq (s_iload (i := .iload_n 2) (len := 1) hq_20 (by decide +kernel) rfl (.inr ⟨2, rfl, rfl, rfl⟩) : e_Sn 20 62 (o_load e_okI 2 63)) t_20_63
noncomputable def n_20_61 : e_Y := u_ld f_okI f_l3 n_20_62
theorem t_20_61 : e_Sn 20 61 (e_un n_20_61) := u_ldIT f_l3_eq (s_iload (i := .iload_n 3) (len := 1) hq_20 (by decide +kernel) rfl (.inr ⟨3, rfl, rfl, rfl⟩) : e_Sn 20 61 (o_load e_okI 3 62)) t_20_62
noncomputable def n_20_60 : e_Y := u_ld f_okI f_l2 n_20_61
theorem t_20_60 : e_Sn 20 60 (e_un n_20_60) := u_ldIT f_l2_eq (s_iload (i := .iload_n 2) (len := 1) hq_20 (by decide +kernel) rfl (.inr ⟨2, rfl, rfl, rfl⟩) : e_Sn 20 60 (o_load e_okI 2 61)) t_20_61
noncomputable def n_20_59 : e_Y := u_push (.inl 2147483650) n_20_60
theorem t_20_59 : e_Sn 20 59 (e_un n_20_59) := u_pushT (s_iconst (n := (2)) hq_20 (by decide +kernel) rfl ⟨by decide +kernel, by decide +kernel⟩ : e_Sn 20 59 (o_push (.inl 2147483650) 60)) t_20_60
noncomputable def n_20_56 : e_Y := u_getf 11 0 (u_old (o_getf (e_f1 11 0) 59) n_20_59) n_20_59
theorem t_20_56 : e_Sn 20 56 (e_un n_20_56) := u_getfT (s_getf (C := er_11) (T := et_11) (N := 15) (ref := "Plateroomprinter$World") (index := 93) (ci := 11) (k := 0) hq_20 ho_20 ⟨rfl, by decide, ei_11, r_m_2_83, .inl rfl⟩ (by decide +kernel) rfl : e_Sn 20 56 (o_getf (e_f1 11 0) 59)) t_20_59
noncomputable def n_20_53 : e_Y := u_getf 2 0 (u_old (o_getf (e_f1 2 0) 56) n_20_56) n_20_56
theorem t_20_53 : e_Sn 20 53 (e_un n_20_53) := u_getfT (s_getf (C := er_2) (T := et_2) (N := 19) (ref := "Plateroomprinter$Engine") (index := 45) (ci := 2) (k := 0) hq_20 ho_20 ⟨rfl, by decide, ei_2, r_m_2_239, .inl rfl⟩ (by decide +kernel) rfl : e_Sn 20 53 (o_getf (e_f1 2 0) 56)) t_20_56
noncomputable def n_20_52 : e_Y := u_ld f_okA f_l0 n_20_53
theorem t_20_52 : e_Sn 20 52 (e_un n_20_52) := u_ldAT f_l0_eq (s_aload (i := .aload_n 0) (len := 1) hq_20 (by decide +kernel) rfl (.inr ⟨0, rfl, rfl, rfl⟩) : e_Sn 20 52 (o_load e_okR 0 53)) t_20_53
noncomputable def n_20_51 : e_Y := u_ast 0 f_okI (u_old (o_ast 0 e_okI 52) n_20_52) n_20_52
theorem t_20_51 : e_Sn 20 51 (e_un n_20_51) := u_astT (fun _ => f_okI_eq) (s_iast hq_20 (by decide +kernel) rfl : e_Sn 20 51 (o_ast 0 e_okI 52)) t_20_52
noncomputable def n_20_50 : e_Y := u_bin a_iadd (u_old (o_iadd 51) n_20_51) n_20_51
theorem t_20_50 : e_Sn 20 50 (e_un n_20_50) := u_iaddT (s_iadd hq_20 (by decide +kernel) rfl : e_Sn 20 50 (o_iadd 51)) t_20_51
noncomputable def n_20_49 : e_Y := u_push (.inl 2147483649) n_20_50
theorem t_20_49 : e_Sn 20 49 (e_un n_20_49) := u_pushT (s_iconst (n := (1)) hq_20 (by decide +kernel) rfl ⟨by decide +kernel, by decide +kernel⟩ : e_Sn 20 49 (o_push (.inl 2147483649) 50)) t_20_50
noncomputable def n_20_48 : e_Y := u_ld f_okI f_l3 n_20_49
theorem t_20_48 : e_Sn 20 48 (e_un n_20_48) := u_ldIT f_l3_eq (s_iload (i := .iload_n 3) (len := 1) hq_20 (by decide +kernel) rfl (.inr ⟨3, rfl, rfl, rfl⟩) : e_Sn 20 48 (o_load e_okI 3 49)) t_20_49
noncomputable def n_20_47 : e_Y := u_ld f_okI f_l1 n_20_48
theorem t_20_47 : e_Sn 20 47 (e_un n_20_47) := u_ldIT f_l1_eq (s_iload (i := .iload_n 1) (len := 1) hq_20 (by decide +kernel) rfl (.inr ⟨1, rfl, rfl, rfl⟩) : e_Sn 20 47 (o_load e_okI 1 48)) t_20_48
noncomputable def n_20_44 : e_Y := u_getf 2 7 (u_old (o_getf (e_f1 2 7) 47) n_20_47) n_20_47
theorem t_20_44 : e_Sn 20 44 (e_un n_20_44) := u_getfT (s_getf (C := er_2) (T := et_2) (N := 19) (ref := "Plateroomprinter$Engine") (index := 27) (ci := 2) (k := 7) hq_20 ho_20 ⟨rfl, by decide, ei_2, r_m_3_7, .inl rfl⟩ (by decide +kernel) rfl : e_Sn 20 44 (o_getf (e_f1 2 7) 47)) t_20_47
noncomputable def n_20_43 : e_Y := u_ld f_okA f_l0 n_20_44
theorem t_20_43 : e_Sn 20 43 (e_un n_20_43) := u_ldAT f_l0_eq (s_aload (i := .aload_n 0) (len := 1) hq_20 (by decide +kernel) rfl (.inr ⟨0, rfl, rfl, rfl⟩) : e_Sn 20 43 (o_load e_okR 0 44)) t_20_44
noncomputable def n_20_37 : e_Y := u_jmp y_ne (u_old2 (o_ceq 40 43) 40 (u_at 40) n_20_43) (u_at 40) n_20_43
theorem t_20_37 : e_Sn 20 37 (e_un n_20_37) := u_ceqT rfl (s_cne (off := (6)) hq_20 (by decide +kernel) rfl rfl : e_Sn 20 37 (o_ceq 40 43)) u_atT t_20_43
noncomputable def n_20_36 : e_Y := u_push (.inl 2147483647) n_20_37
theorem t_20_36 : e_Sn 20 36 (e_un n_20_36) := u_pushT (s_iconst (n := (-1)) hq_20 (by decide +kernel) rfl ⟨by decide +kernel, by decide +kernel⟩ : e_Sn 20 36 (o_push (.inl 2147483647) 37)) t_20_37
noncomputable def n_20_35 : e_Y := u_ld f_okI f_l3 n_20_36
theorem t_20_35 : e_Sn 20 35 (e_un n_20_35) := u_ldIT f_l3_eq (s_iload (i := .iload_n 3) (len := 1) hq_20 (by decide +kernel) rfl (.inr ⟨3, rfl, rfl, rfl⟩) : e_Sn 20 35 (o_load e_okI 3 36)) t_20_36
noncomputable def n_20_34 : e_Y := u_st f_okI f_s3 n_20_35
theorem t_20_34 : e_Sn 20 34 (e_un n_20_34) := u_stIT (fun _ _ _ => f_s3_eq) (s_istore (i := .istore_n 3) (len := 1) hq_20 (by decide +kernel) rfl (.inr ⟨3, rfl, rfl, rfl⟩) : e_Sn 20 34 (o_store e_okI 3 35)) t_20_35
noncomputable def n_20_31 : e_Y := u_callV 1 9 6 25 3 n_9_0 n_20_34
theorem t_20_31 : e_Sn 20 31 (e_un n_20_31) := u_callVT rfl (s_callV (ci := 1) (C := er_1) (T := et_1) (N := 4) (index := 144) hq_20 ho_20 hy_9 hp_9 hc_9 hi_9 hd_9 (r_k3 (List.mem_of_getElem? (i := 228) (by decide +kernel))) hs_9 (r_k3 (List.mem_of_getElem? (i := 230) (by decide +kernel))) rfl (by decide +kernel) rfl : e_Sn 20 31 (o_callV (e_s1 1 9 6) 3 34)) t_9_0 t_20_34
noncomputable def n_20_30 : e_Y := u_ald 0 (u_old (o_ald e_fcs 31) n_20_31) n_20_31
theorem t_20_30 : e_Sn 20 30 (e_un n_20_30) := u_aldT (s_iald hq_20 (by decide +kernel) rfl : e_Sn 20 30 (o_ald e_fcs 31)) t_20_31
noncomputable def n_20_29 : e_Y := u_ld f_okI f_l1 n_20_30
theorem t_20_29 : e_Sn 20 29 (e_un n_20_29) := u_ldIT f_l1_eq (s_iload (i := .iload_n 1) (len := 1) hq_20 (by decide +kernel) rfl (.inr ⟨1, rfl, rfl, rfl⟩) : e_Sn 20 29 (o_load e_okI 1 30)) t_20_30
noncomputable def n_20_26 : e_Y := u_getf 2 6 (u_old (o_getf (e_f1 2 6) 29) n_20_29) n_20_29
theorem t_20_26 : e_Sn 20 26 (e_un n_20_26) := u_getfT (s_getf (C := er_2) (T := et_2) (N := 19) (ref := "Plateroomprinter$Engine") (index := 24) (ci := 2) (k := 6) hq_20 ho_20 ⟨rfl, by decide, ei_2, r_m_3_6, .inl rfl⟩ (by decide +kernel) rfl : e_Sn 20 26 (o_getf (e_f1 2 6) 29)) t_20_29
noncomputable def n_20_25 : e_Y := u_ld f_okA f_l0 n_20_26
theorem t_20_25 : e_Sn 20 25 (e_un n_20_25) := u_ldAT f_l0_eq (s_aload (i := .aload_n 0) (len := 1) hq_20 (by decide +kernel) rfl (.inr ⟨0, rfl, rfl, rfl⟩) : e_Sn 20 25 (o_load e_okR 0 26)) t_20_26
noncomputable def n_20_24 : e_Y := u_ld f_okI f_l2 n_20_25
theorem t_20_24 : e_Sn 20 24 (e_un n_20_24) := u_ldIT f_l2_eq (s_iload (i := .iload_n 2) (len := 1) hq_20 (by decide +kernel) rfl (.inr ⟨2, rfl, rfl, rfl⟩) : e_Sn 20 24 (o_load e_okI 2 25)) t_20_25
noncomputable def n_20_21 : e_Y := u_getf 2 1 (u_old (o_getf (e_f1 2 1) 24) n_20_24) n_20_24
theorem t_20_21 : e_Sn 20 21 (e_un n_20_21) := u_getfT (s_getf (C := er_2) (T := et_2) (N := 19) (ref := "Plateroomprinter$Engine") (index := 49) (ci := 2) (k := 1) hq_20 ho_20 ⟨rfl, by decide, ei_2, r_m_3_0, .inl rfl⟩ (by decide +kernel) rfl : e_Sn 20 21 (o_getf (e_f1 2 1) 24)) t_20_24
noncomputable def n_20_20 : e_Y := u_ld f_okA f_l0 n_20_21
theorem t_20_20 : e_Sn 20 20 (e_un n_20_20) := u_ldAT f_l0_eq (s_aload (i := .aload_n 0) (len := 1) hq_20 (by decide +kernel) rfl (.inr ⟨0, rfl, rfl, rfl⟩) : e_Sn 20 20 (o_load e_okR 0 21)) t_20_21
noncomputable def n_20_19 : e_Y := u_st f_okI f_s2 n_20_20
theorem t_20_19 : e_Sn 20 19 (e_un n_20_19) := u_stIT (fun _ _ _ => f_s2_eq) (s_istore (i := .istore_n 2) (len := 1) hq_20 (by decide +kernel) rfl (.inr ⟨2, rfl, rfl, rfl⟩) : e_Sn 20 19 (o_store e_okI 2 20)) t_20_20
noncomputable def n_20_18 : e_Y := u_ald 0 (u_old (o_ald e_fcs 19) n_20_19) n_20_19
theorem t_20_18 : e_Sn 20 18 (e_un n_20_18) := u_aldT (s_iald hq_20 (by decide +kernel) rfl : e_Sn 20 18 (o_ald e_fcs 19)) t_20_19
noncomputable def n_20_17 : e_Y := u_ld f_okI f_l1 n_20_18
theorem t_20_17 : e_Sn 20 17 (e_un n_20_17) := u_ldIT f_l1_eq (s_iload (i := .iload_n 1) (len := 1) hq_20 (by decide +kernel) rfl (.inr ⟨1, rfl, rfl, rfl⟩) : e_Sn 20 17 (o_load e_okI 1 18)) t_20_18
noncomputable def n_20_14 : e_Y := u_getf 2 7 (u_old (o_getf (e_f1 2 7) 17) n_20_17) n_20_17
theorem t_20_14 : e_Sn 20 14 (e_un n_20_14) := u_getfT (s_getf (C := er_2) (T := et_2) (N := 19) (ref := "Plateroomprinter$Engine") (index := 27) (ci := 2) (k := 7) hq_20 ho_20 ⟨rfl, by decide, ei_2, r_m_3_7, .inl rfl⟩ (by decide +kernel) rfl : e_Sn 20 14 (o_getf (e_f1 2 7) 17)) t_20_17
noncomputable def n_20_13 : e_Y := u_ld f_okA f_l0 n_20_14
theorem t_20_13 : e_Sn 20 13 (e_un n_20_13) := u_ldAT f_l0_eq (s_aload (i := .aload_n 0) (len := 1) hq_20 (by decide +kernel) rfl (.inr ⟨0, rfl, rfl, rfl⟩) : e_Sn 20 13 (o_load e_okR 0 14)) t_20_14
noncomputable def n_20_7 : e_Y := u_jmp y_ge (u_old2 (o_clt 13 10) 13 n_20_13 (u_at 10)) n_20_13 (u_at 10)
theorem t_20_7 : e_Sn 20 7 (e_un n_20_7) := u_cltT rfl (s_clt (off := (6)) hq_20 (by decide +kernel) rfl rfl : e_Sn 20 7 (o_clt 13 10)) t_20_13 u_atT
noncomputable def n_20_5 : e_Y := u_push (.inl 2147483660) n_20_7
theorem t_20_5 : e_Sn 20 5 (e_un n_20_5) := u_pushT (s_bipush (n := (12)) hq_20 (by decide +kernel) rfl ⟨by decide +kernel, by decide +kernel⟩ : e_Sn 20 5 (o_push (.inl 2147483660) 7)) t_20_7
noncomputable def n_20_4 : e_Y := u_ld f_okI f_l1 n_20_5
theorem t_20_4 : e_Sn 20 4 (e_un n_20_4) := u_ldIT f_l1_eq (s_iload (i := .iload_n 1) (len := 1) hq_20 (by decide +kernel) rfl (.inr ⟨1, rfl, rfl, rfl⟩) : e_Sn 20 4 (o_load e_okI 1 5)) t_20_5
noncomputable def n_20_1 : e_Y := u_if y_ge0 (u_old2 (o_iflt 10 4) 10 (u_at 10) n_20_4) (u_at 10) n_20_4
theorem t_20_1 : e_Sn 20 1 (e_un n_20_1) := u_ifltT rfl (s_iflt (off := (9)) hq_20 (by decide +kernel) rfl rfl : e_Sn 20 1 (o_iflt 10 4)) u_atT t_20_4
noncomputable def n_20_0 : e_Y := u_ld f_okI f_l1 n_20_1
theorem t_20_0 : e_Sn 20 0 (e_un n_20_0) := u_ldIT f_l1_eq (s_iload (i := .iload_n 1) (len := 1) hq_20 (by decide +kernel) rfl (.inr ⟨1, rfl, rfl, rfl⟩) : e_Sn 20 0 (o_load e_okI 1 1)) t_20_1
noncomputable def e_tb_20 : e_X := (e_lf 0 (e_un n_20_0))
theorem e_tk_20 : e_Tb 20 e_tb_20 := (e_lfT t_20_0)
theorem hq_23 : (e_ml[23]?).map (·.2.1) = some prog_3_method_7_code := Eq.trans (congrArg (Option.map (fun e => e.2.1)) hy_23) rfl
theorem ho_23 : (e_ml[23]?).map (·.1.cls) = some "Plateroomprinter$Engine" := Eq.trans (congrArg (Option.map (fun e => e.1.cls)) hy_23) rfl
theorem hr_23 : (e_ml[23]?).map (·.2.2.2) = some (some .int) := Eq.trans (congrArg (Option.map (fun e => e.2.2.2)) hy_23) rfl
noncomputable def n_23_189 : e_Y := u_retI
theorem t_23_189 : e_Sn 23 189 (e_un n_23_189) := u_retIT (s_iret hq_23 hr_23 (by decide +kernel) : e_Sn 23 189 (o_ret e_okI))
noncomputable def n_23_186 : e_Y := u_callV 2 16 3 22 2 n_16_0 n_23_189
theorem t_23_186 : e_Sn 23 186 (e_un n_23_186) := u_callVT rfl (s_callV (ci := 2) (C := er_2) (T := et_2) (N := 19) (index := 129) hq_23 ho_23 hy_16 hp_16 hc_16 hi_16 hd_16 (r_k3 (List.mem_of_getElem? (i := 234) (by decide +kernel))) hs_16 (List.mem_of_getElem? (i := 4) (by decide +kernel)) rfl (by decide +kernel) rfl : e_Sn 23 186 (o_callV (e_s1 2 16 3) 2 189)) t_16_0 t_23_189
noncomputable def n_23_183 : e_Y := u_callV 1 11 2 21 2 n_11_0 n_23_186
theorem t_23_183 : e_Sn 23 183 (e_un n_23_183) := u_callVT rfl (s_callV (ci := 1) (C := er_1) (T := et_1) (N := 4) (index := 116) hq_23 ho_23 hy_11 hp_11 hc_11 hi_11 hd_11 r_m_3_203 hs_11 r_m_3_205 rfl (by decide +kernel) rfl : e_Sn 23 183 (o_callV (e_s1 1 11 2) 2 186)) t_11_0 t_23_186
noncomputable def n_23_182 : e_Y := u_ld f_okI f_l2 n_23_183
theorem t_23_182 : e_Sn 23 182 (e_un n_23_182) := u_ldIT f_l2_eq (s_iload (i := .iload_n 2) (len := 1) hq_23 (by decide +kernel) rfl (.inr ⟨2, rfl, rfl, rfl⟩) : e_Sn 23 182 (o_load e_okI 2 183)) t_23_183
noncomputable def n_23_179 : e_Y := u_getf 2 1 (u_old (o_getf (e_f1 2 1) 182) n_23_182) n_23_182
theorem t_23_179 : e_Sn 23 179 (e_un n_23_179) := u_getfT (s_getf (C := er_2) (T := et_2) (N := 19) (ref := "Plateroomprinter$Engine") (index := 49) (ci := 2) (k := 1) hq_23 ho_23 ⟨rfl, by decide, ei_2, r_m_3_0, .inl rfl⟩ (by decide +kernel) rfl : e_Sn 23 179 (o_getf (e_f1 2 1) 182)) t_23_182
noncomputable def n_23_178 : e_Y := u_ld f_okA f_l0 n_23_179
theorem t_23_178 : e_Sn 23 178 (e_un n_23_178) := u_ldAT f_l0_eq (s_aload (i := .aload_n 0) (len := 1) hq_23 (by decide +kernel) rfl (.inr ⟨0, rfl, rfl, rfl⟩) : e_Sn 23 178 (o_load e_okR 0 179)) t_23_179
noncomputable def n_23_177 : e_Y := u_ld f_okA f_l0 n_23_178
theorem t_23_177 : e_Sn 23 177 (e_un n_23_177) := u_ldAT f_l0_eq (s_aload (i := .aload_n 0) (len := 1) hq_23 (by decide +kernel) rfl (.inr ⟨0, rfl, rfl, rfl⟩) : e_Sn 23 177 (o_load e_okR 0 178)) t_23_178
noncomputable def n_23_176 : e_Y := u_retI
theorem t_23_176 : e_Sn 23 176 (e_un n_23_176) := u_retIT (s_iret hq_23 hr_23 (by decide +kernel) : e_Sn 23 176 (o_ret e_okI))
noncomputable def n_23_173 : e_Y := u_callV 2 20 4 23 2 n_20_0 n_23_176
theorem t_23_173 : e_Sn 23 173 (e_un n_23_173) := u_callVT rfl (s_callV (ci := 2) (C := er_2) (T := et_2) (N := 19) (index := 126) hq_23 ho_23 hy_20 hp_20 hc_20 hi_20 hd_20 (r_k3 (List.mem_of_getElem? (i := 224) (by decide +kernel))) hs_20 (List.mem_of_getElem? (i := 3) (by decide +kernel)) rfl (by decide +kernel) rfl : e_Sn 23 173 (o_callV (e_s1 2 20 4) 2 176)) t_20_0 t_23_176
noncomputable def n_23_172 : e_Y := u_ld f_okI f_l1 n_23_173
theorem t_23_172 : e_Sn 23 172 (e_un n_23_172) := u_ldIT f_l1_eq (s_iload (i := .iload_n 1) (len := 1) hq_23 (by decide +kernel) rfl (.inr ⟨1, rfl, rfl, rfl⟩) : e_Sn 23 172 (o_load e_okI 1 173)) t_23_173
noncomputable def n_23_171 : e_Y := u_ld f_okA f_l0 n_23_172
theorem t_23_171 : e_Sn 23 171 (e_un n_23_171) := u_ldAT f_l0_eq (s_aload (i := .aload_n 0) (len := 1) hq_23 (by decide +kernel) rfl (.inr ⟨0, rfl, rfl, rfl⟩) : e_Sn 23 171 (o_load e_okR 0 172)) t_23_172
noncomputable def n_23_136 : e_Y := u_retI
theorem t_23_136 : e_Sn 23 136 (e_un n_23_136) := u_retIT (s_iret hq_23 hr_23 (by decide +kernel) : e_Sn 23 136 (o_ret e_okI))
noncomputable def n_23_133 : e_Y := u_callV 4 33 4 23 4 n_33_0 n_23_136
theorem t_23_133 : e_Sn 23 133 (e_un n_23_133) := u_callVT rfl (s_callV (ci := 4) (C := er_4) (T := et_4) (N := 5) (index := 119) hq_23 ho_23 hy_33 hp_33 hc_33 hi_33 hd_33 r_m_3_207 hs_33 r_m_3_192 rfl (by decide +kernel) rfl : e_Sn 23 133 (o_callV (e_s1 4 33 4) 4 136)) t_33_0 t_23_136
noncomputable def n_23_132 : e_Y := u_push (.inl 2147483648) n_23_133
theorem t_23_132 : e_Sn 23 132 (e_un n_23_132) := u_pushT (s_iconst (n := (0)) hq_23 (by decide +kernel) rfl ⟨by decide +kernel, by decide +kernel⟩ : e_Sn 23 132 (o_push (.inl 2147483648) 133)) t_23_133
noncomputable def n_23_129 : e_Y := u_callV 1 11 2 21 2 n_11_0 n_23_132
theorem t_23_129 : e_Sn 23 129 (e_un n_23_129) := u_callVT rfl (s_callV (ci := 1) (C := er_1) (T := et_1) (N := 4) (index := 116) hq_23 ho_23 hy_11 hp_11 hc_11 hi_11 hd_11 r_m_3_203 hs_11 r_m_3_205 rfl (by decide +kernel) rfl : e_Sn 23 129 (o_callV (e_s1 1 11 2) 2 132)) t_11_0 t_23_132
noncomputable def n_23_128 : e_Y := u_ld f_okI f_l2 n_23_129
theorem t_23_128 : e_Sn 23 128 (e_un n_23_128) := u_ldIT f_l2_eq (s_iload (i := .iload_n 2) (len := 1) hq_23 (by decide +kernel) rfl (.inr ⟨2, rfl, rfl, rfl⟩) : e_Sn 23 128 (o_load e_okI 2 129)) t_23_129
noncomputable def n_23_125 : e_Y := u_getf 2 1 (u_old (o_getf (e_f1 2 1) 128) n_23_128) n_23_128
theorem t_23_125 : e_Sn 23 125 (e_un n_23_125) := u_getfT (s_getf (C := er_2) (T := et_2) (N := 19) (ref := "Plateroomprinter$Engine") (index := 49) (ci := 2) (k := 1) hq_23 ho_23 ⟨rfl, by decide, ei_2, r_m_3_0, .inl rfl⟩ (by decide +kernel) rfl : e_Sn 23 125 (o_getf (e_f1 2 1) 128)) t_23_128
noncomputable def n_23_124 : e_Y := u_ld f_okA f_l0 n_23_125
theorem t_23_124 : e_Sn 23 124 (e_un n_23_124) := u_ldAT f_l0_eq (s_aload (i := .aload_n 0) (len := 1) hq_23 (by decide +kernel) rfl (.inr ⟨0, rfl, rfl, rfl⟩) : e_Sn 23 124 (o_load e_okR 0 125)) t_23_125
noncomputable def n_23_123 : e_Y := u_push (.inl 2147483648) n_23_124
theorem t_23_123 : e_Sn 23 123 (e_un n_23_123) := u_pushT (s_iconst (n := (0)) hq_23 (by decide +kernel) rfl ⟨by decide +kernel, by decide +kernel⟩ : e_Sn 23 123 (o_push (.inl 2147483648) 124)) t_23_124
noncomputable def n_23_120 : e_Y := u_getf 11 0 (u_old (o_getf (e_f1 11 0) 123) n_23_123) n_23_123
theorem t_23_120 : e_Sn 23 120 (e_un n_23_120) := u_getfT (s_getf (C := er_11) (T := et_11) (N := 15) (ref := "Plateroomprinter$World") (index := 93) (ci := 11) (k := 0) hq_23 ho_23 ⟨rfl, by decide, ei_11, r_m_2_83, .inl rfl⟩ (by decide +kernel) rfl : e_Sn 23 120 (o_getf (e_f1 11 0) 123)) t_23_123
noncomputable def n_23_117 : e_Y := u_getf 2 0 (u_old (o_getf (e_f1 2 0) 120) n_23_120) n_23_120
theorem t_23_117 : e_Sn 23 117 (e_un n_23_117) := u_getfT (s_getf (C := er_2) (T := et_2) (N := 19) (ref := "Plateroomprinter$Engine") (index := 45) (ci := 2) (k := 0) hq_23 ho_23 ⟨rfl, by decide, ei_2, r_m_2_239, .inl rfl⟩ (by decide +kernel) rfl : e_Sn 23 117 (o_getf (e_f1 2 0) 120)) t_23_120
noncomputable def n_23_116 : e_Y := u_ld f_okA f_l0 n_23_117
theorem t_23_116 : e_Sn 23 116 (e_un n_23_116) := u_ldAT f_l0_eq (s_aload (i := .aload_n 0) (len := 1) hq_23 (by decide +kernel) rfl (.inr ⟨0, rfl, rfl, rfl⟩) : e_Sn 23 116 (o_load e_okR 0 117)) t_23_117
noncomputable def n_23_80 : e_Y := u_tab (o_switch 2147483648 [116, 177, 137, 158, 171] 190)
theorem t_23_80 : e_Sn 23 80 (e_un n_23_80) := u_tabT (s_switch (dflt := (110)) (low := (0)) (hi := (4)) (offs := #[(36), (97), (57), (78), (91)]) (len := 36) hq_23 (by decide +kernel) rfl rfl rfl rfl : e_Sn 23 80 (o_switch 2147483648 [116, 177, 137, 158, 171] 190))
noncomputable def n_23_77 : e_Y := u_callV 1 10 2 21 2 n_10_0 n_23_80
theorem t_23_77 : e_Sn 23 77 (e_un n_23_77) := u_callVT rfl (s_callV (ci := 1) (C := er_1) (T := et_1) (N := 4) (index := 112) hq_23 ho_23 hy_10 hp_10 hc_10 hi_10 hd_10 (r_k3 (List.mem_of_getElem? (i := 199) (by decide +kernel))) hs_10 (r_k3 (List.mem_of_getElem? (i := 201) (by decide +kernel))) rfl (by decide +kernel) rfl : e_Sn 23 77 (o_callV (e_s1 1 10 2) 2 80)) t_10_0 t_23_80
noncomputable def n_23_76 : e_Y := u_ld f_okI f_l2 n_23_77
theorem t_23_76 : e_Sn 23 76 (e_un n_23_76) := u_ldIT f_l2_eq (s_iload (i := .iload_n 2) (len := 1) hq_23 (by decide +kernel) rfl (.inr ⟨2, rfl, rfl, rfl⟩) : e_Sn 23 76 (o_load e_okI 2 77)) t_23_77
noncomputable def n_23_73 : e_Y := u_getf 2 1 (u_old (o_getf (e_f1 2 1) 76) n_23_76) n_23_76
theorem t_23_73 : e_Sn 23 73 (e_un n_23_73) := u_getfT (s_getf (C := er_2) (T := et_2) (N := 19) (ref := "Plateroomprinter$Engine") (index := 49) (ci := 2) (k := 1) hq_23 ho_23 ⟨rfl, by decide, ei_2, r_m_3_0, .inl rfl⟩ (by decide +kernel) rfl : e_Sn 23 73 (o_getf (e_f1 2 1) 76)) t_23_76
noncomputable def n_23_72 : e_Y := u_ld f_okA f_l0 n_23_73
theorem t_23_72 : e_Sn 23 72 (e_un n_23_72) := u_ldAT f_l0_eq (s_aload (i := .aload_n 0) (len := 1) hq_23 (by decide +kernel) rfl (.inr ⟨0, rfl, rfl, rfl⟩) : e_Sn 23 72 (o_load e_okR 0 73)) t_23_73
noncomputable def n_23_69 : e_Y := u_putf 2 15 f_okI (u_old (o_putf (e_f1 2 15) e_okI 72) n_23_72) n_23_72
theorem t_23_69 : e_Sn 23 69 (e_un n_23_69) := u_putfT (fun _ => f_okI_eq) (s_putf (ty0 := ey_2) (ok := e_okI) (C := er_2) (T := et_2) (N := 19) (ref := "Plateroomprinter$Engine") (index := 60) (ci := 2) (k := 15) hq_23 ho_23 ⟨rfl, by decide, ei_2, r_m_3_15, .inl rfl⟩ eo_2 en_2 e_oksI (.inl rfl) (by decide +kernel) rfl : e_Sn 23 69 (o_putf (e_f1 2 15) e_okI 72)) t_23_72
noncomputable def n_23_68 : e_Y := u_bin a_iadd (u_old (o_iadd 69) n_23_69) n_23_69
theorem t_23_68 : e_Sn 23 68 (e_un n_23_68) := u_iaddT (s_iadd hq_23 (by decide +kernel) rfl : e_Sn 23 68 (o_iadd 69)) t_23_69
noncomputable def n_23_67 : e_Y := u_push (.inl 2147483649) n_23_68
theorem t_23_67 : e_Sn 23 67 (e_un n_23_67) := u_pushT (s_iconst (n := (1)) hq_23 (by decide +kernel) rfl ⟨by decide +kernel, by decide +kernel⟩ : e_Sn 23 67 (o_push (.inl 2147483649) 68)) t_23_68
noncomputable def n_23_64 : e_Y := u_getf 2 15 (u_old (o_getf (e_f1 2 15) 67) n_23_67) n_23_67
theorem t_23_64 : e_Sn 23 64 (e_un n_23_64) := u_getfT (s_getf (C := er_2) (T := et_2) (N := 19) (ref := "Plateroomprinter$Engine") (index := 60) (ci := 2) (k := 15) hq_23 ho_23 ⟨rfl, by decide, ei_2, r_m_3_15, .inl rfl⟩ (by decide +kernel) rfl : e_Sn 23 64 (o_getf (e_f1 2 15) 67)) t_23_67
noncomputable def n_23_63 : e_Y := u_old (o_dup 64) n_23_64
theorem t_23_63 : e_Sn 23 63 (e_un n_23_63) := u_oldT (s_dup hq_23 (by decide +kernel) rfl : e_Sn 23 63 (o_dup 64)) t_23_64 e_cg_dup
noncomputable def n_23_62 : e_Y := u_ld f_okA f_l0 n_23_63
theorem t_23_62 : e_Sn 23 62 (e_un n_23_62) := u_ldAT f_l0_eq (s_aload (i := .aload_n 0) (len := 1) hq_23 (by decide +kernel) rfl (.inr ⟨0, rfl, rfl, rfl⟩) : e_Sn 23 62 (o_load e_okR 0 63)) t_23_63
noncomputable def n_23_59 : e_Y := u_putf 2 14 f_okI (u_old (o_putf (e_f1 2 14) e_okI 62) n_23_62) n_23_62
theorem t_23_59 : e_Sn 23 59 (e_un n_23_59) := u_putfT (fun _ => f_okI_eq) (s_putf (ty0 := ey_2) (ok := e_okI) (C := er_2) (T := et_2) (N := 19) (ref := "Plateroomprinter$Engine") (index := 57) (ci := 2) (k := 14) hq_23 ho_23 ⟨rfl, by decide, ei_2, r_m_3_14, .inl rfl⟩ eo_2 en_2 e_oksI (.inl rfl) (by decide +kernel) rfl : e_Sn 23 59 (o_putf (e_f1 2 14) e_okI 62)) t_23_62
noncomputable def n_23_58 : e_Y := u_bin a_iadd (u_old (o_iadd 59) n_23_59) n_23_59
theorem t_23_58 : e_Sn 23 58 (e_un n_23_58) := u_iaddT (s_iadd hq_23 (by decide +kernel) rfl : e_Sn 23 58 (o_iadd 59)) t_23_59
noncomputable def n_23_57 : e_Y := u_push (.inl 2147483649) n_23_58
theorem t_23_57 : e_Sn 23 57 (e_un n_23_57) := u_pushT (s_iconst (n := (1)) hq_23 (by decide +kernel) rfl ⟨by decide +kernel, by decide +kernel⟩ : e_Sn 23 57 (o_push (.inl 2147483649) 58)) t_23_58
noncomputable def n_23_54 : e_Y := u_getf 2 14 (u_old (o_getf (e_f1 2 14) 57) n_23_57) n_23_57
theorem t_23_54 : e_Sn 23 54 (e_un n_23_54) := u_getfT (s_getf (C := er_2) (T := et_2) (N := 19) (ref := "Plateroomprinter$Engine") (index := 57) (ci := 2) (k := 14) hq_23 ho_23 ⟨rfl, by decide, ei_2, r_m_3_14, .inl rfl⟩ (by decide +kernel) rfl : e_Sn 23 54 (o_getf (e_f1 2 14) 57)) t_23_57
noncomputable def n_23_53 : e_Y := u_old (o_dup 54) n_23_54
theorem t_23_53 : e_Sn 23 53 (e_un n_23_53) := u_oldT (s_dup hq_23 (by decide +kernel) rfl : e_Sn 23 53 (o_dup 54)) t_23_54 e_cg_dup
noncomputable def n_23_52 : e_Y := u_ld f_okA f_l0 n_23_53
theorem t_23_52 : e_Sn 23 52 (e_un n_23_52) := u_ldAT f_l0_eq (s_aload (i := .aload_n 0) (len := 1) hq_23 (by decide +kernel) rfl (.inr ⟨0, rfl, rfl, rfl⟩) : e_Sn 23 52 (o_load e_okR 0 53)) t_23_53
noncomputable def n_23_49 : e_Y := u_callV 2 22 2 21 2 n_22_0 n_23_52
theorem t_23_49 : e_Sn 23 49 (e_un n_23_49) := u_callVT rfl (s_callV (ci := 2) (C := er_2) (T := et_2) (N := 19) (index := 89) hq_23 ho_23 hy_22 hp_22 hc_22 hi_22 hd_22 r_m_3_180 hs_22 (List.mem_of_getElem? (i := 2) (by decide +kernel)) rfl (by decide +kernel) rfl : e_Sn 23 49 (o_callV (e_s1 2 22 2) 2 52)) t_22_0 t_23_52
noncomputable def n_23_48 : e_Y := u_ld f_okI f_l1 n_23_49
theorem t_23_48 : e_Sn 23 48 (e_un n_23_48) := u_ldIT f_l1_eq (s_iload (i := .iload_n 1) (len := 1) hq_23 (by decide +kernel) rfl (.inr ⟨1, rfl, rfl, rfl⟩) : e_Sn 23 48 (o_load e_okI 1 49)) t_23_49
noncomputable def n_23_47 : e_Y := u_ld f_okA f_l0 n_23_48
theorem t_23_47 : e_Sn 23 47 (e_un n_23_47) := u_ldAT f_l0_eq (s_aload (i := .aload_n 0) (len := 1) hq_23 (by decide +kernel) rfl (.inr ⟨0, rfl, rfl, rfl⟩) : e_Sn 23 47 (o_load e_okR 0 48)) t_23_48
noncomputable def n_23_46 : e_Y := u_ast 0 f_okI (u_old (o_ast 0 e_okI 47) n_23_47) n_23_47
theorem t_23_46 : e_Sn 23 46 (e_un n_23_46) := u_astT (fun _ => f_okI_eq) (s_iast hq_23 (by decide +kernel) rfl : e_Sn 23 46 (o_ast 0 e_okI 47)) t_23_47
noncomputable def n_23_45 : e_Y := u_bin a_iadd (u_old (o_iadd 46) n_23_46) n_23_46
theorem t_23_45 : e_Sn 23 45 (e_un n_23_45) := u_iaddT (s_iadd hq_23 (by decide +kernel) rfl : e_Sn 23 45 (o_iadd 46)) t_23_46
noncomputable def n_23_44 : e_Y := u_push (.inl 2147483649) n_23_45
theorem t_23_44 : e_Sn 23 44 (e_un n_23_44) := u_pushT (s_iconst (n := (1)) hq_23 (by decide +kernel) rfl ⟨by decide +kernel, by decide +kernel⟩ : e_Sn 23 44 (o_push (.inl 2147483649) 45)) t_23_45
noncomputable def n_23_43 : e_Y := u_ld f_okI f_l2 n_23_44
theorem t_23_43 : e_Sn 23 43 (e_un n_23_43) := u_ldIT f_l2_eq (s_iload (i := .iload_n 2) (len := 1) hq_23 (by decide +kernel) rfl (.inr ⟨2, rfl, rfl, rfl⟩) : e_Sn 23 43 (o_load e_okI 2 44)) t_23_44
noncomputable def n_23_42 : e_Y := u_ld f_okI f_l1 n_23_43
theorem t_23_42 : e_Sn 23 42 (e_un n_23_42) := u_ldIT f_l1_eq (s_iload (i := .iload_n 1) (len := 1) hq_23 (by decide +kernel) rfl (.inr ⟨1, rfl, rfl, rfl⟩) : e_Sn 23 42 (o_load e_okI 1 43)) t_23_43
noncomputable def n_23_39 : e_Y := u_getf 2 7 (u_old (o_getf (e_f1 2 7) 42) n_23_42) n_23_42
theorem t_23_39 : e_Sn 23 39 (e_un n_23_39) := u_getfT (s_getf (C := er_2) (T := et_2) (N := 19) (ref := "Plateroomprinter$Engine") (index := 27) (ci := 2) (k := 7) hq_23 ho_23 ⟨rfl, by decide, ei_2, r_m_3_7, .inl rfl⟩ (by decide +kernel) rfl : e_Sn 23 39 (o_getf (e_f1 2 7) 42)) t_23_42
noncomputable def n_23_38 : e_Y := u_ld f_okA f_l0 n_23_39
theorem t_23_38 : e_Sn 23 38 (e_un n_23_38) := u_ldAT f_l0_eq (s_aload (i := .aload_n 0) (len := 1) hq_23 (by decide +kernel) rfl (.inr ⟨0, rfl, rfl, rfl⟩) : e_Sn 23 38 (o_load e_okR 0 39)) t_23_39
noncomputable def n_23_37 : e_Y := u_ast 0 f_okI (u_old (o_ast 0 e_okI 38) n_23_38) n_23_38
theorem t_23_37 : e_Sn 23 37 (e_un n_23_37) := u_astT (fun _ => f_okI_eq) (s_iast hq_23 (by decide +kernel) rfl : e_Sn 23 37 (o_ast 0 e_okI 38)) t_23_38
noncomputable def n_23_36 : e_Y := u_ld f_okI f_l2 n_23_37
theorem t_23_36 : e_Sn 23 36 (e_un n_23_36) := u_ldIT f_l2_eq (s_iload (i := .iload_n 2) (len := 1) hq_23 (by decide +kernel) rfl (.inr ⟨2, rfl, rfl, rfl⟩) : e_Sn 23 36 (o_load e_okI 2 37)) t_23_37
noncomputable def n_23_35 : e_Y := u_ld f_okI f_l1 n_23_36
theorem t_23_35 : e_Sn 23 35 (e_un n_23_35) := u_ldIT f_l1_eq (s_iload (i := .iload_n 1) (len := 1) hq_23 (by decide +kernel) rfl (.inr ⟨1, rfl, rfl, rfl⟩) : e_Sn 23 35 (o_load e_okI 1 36)) t_23_36
noncomputable def n_23_32 : e_Y := u_getf 2 8 (u_old (o_getf (e_f1 2 8) 35) n_23_35) n_23_35
theorem t_23_32 : e_Sn 23 32 (e_un n_23_32) := u_getfT (s_getf (C := er_2) (T := et_2) (N := 19) (ref := "Plateroomprinter$Engine") (index := 30) (ci := 2) (k := 8) hq_23 ho_23 ⟨rfl, by decide, ei_2, r_m_3_8, .inl rfl⟩ (by decide +kernel) rfl : e_Sn 23 32 (o_getf (e_f1 2 8) 35)) t_23_35
noncomputable def n_23_31 : e_Y := u_ld f_okA f_l0 n_23_32
theorem t_23_31 : e_Sn 23 31 (e_un n_23_31) := u_ldAT f_l0_eq (s_aload (i := .aload_n 0) (len := 1) hq_23 (by decide +kernel) rfl (.inr ⟨0, rfl, rfl, rfl⟩) : e_Sn 23 31 (o_load e_okR 0 32)) t_23_32
noncomputable def n_23_30 : e_Y := u_st f_okI f_s2 n_23_31
theorem t_23_30 : e_Sn 23 30 (e_un n_23_30) := u_stIT (fun _ _ _ => f_s2_eq) (s_istore (i := .istore_n 2) (len := 1) hq_23 (by decide +kernel) rfl (.inr ⟨2, rfl, rfl, rfl⟩) : e_Sn 23 30 (o_store e_okI 2 31)) t_23_31
noncomputable def n_23_29 : e_Y := u_ald 0 (u_old (o_ald e_fcs 30) n_23_30) n_23_30
theorem t_23_29 : e_Sn 23 29 (e_un n_23_29) := u_aldT (s_iald hq_23 (by decide +kernel) rfl : e_Sn 23 29 (o_ald e_fcs 30)) t_23_30
noncomputable def n_23_28 : e_Y := u_ld f_okI f_l1 n_23_29
theorem t_23_28 : e_Sn 23 28 (e_un n_23_28) := u_ldIT f_l1_eq (s_iload (i := .iload_n 1) (len := 1) hq_23 (by decide +kernel) rfl (.inr ⟨1, rfl, rfl, rfl⟩) : e_Sn 23 28 (o_load e_okI 1 29)) t_23_29
noncomputable def n_23_25 : e_Y := u_getf 2 7 (u_old (o_getf (e_f1 2 7) 28) n_23_28) n_23_28
theorem t_23_25 : e_Sn 23 25 (e_un n_23_25) := u_getfT (s_getf (C := er_2) (T := et_2) (N := 19) (ref := "Plateroomprinter$Engine") (index := 27) (ci := 2) (k := 7) hq_23 ho_23 ⟨rfl, by decide, ei_2, r_m_3_7, .inl rfl⟩ (by decide +kernel) rfl : e_Sn 23 25 (o_getf (e_f1 2 7) 28)) t_23_28
noncomputable def n_23_24 : e_Y := u_ld f_okA f_l0 n_23_25
theorem t_23_24 : e_Sn 23 24 (e_un n_23_24) := u_ldAT f_l0_eq (s_aload (i := .aload_n 0) (len := 1) hq_23 (by decide +kernel) rfl (.inr ⟨0, rfl, rfl, rfl⟩) : e_Sn 23 24 (o_load e_okR 0 25)) t_23_25
noncomputable def n_23_19 : e_Y := u_jmp y_ge (u_old2 (o_clt 24 22) 24 n_23_24 (u_at 22)) n_23_24 (u_at 22)
theorem t_23_19 : e_Sn 23 19 (e_un n_23_19) := u_cltT rfl (s_clt (off := (5)) hq_23 (by decide +kernel) rfl rfl : e_Sn 23 19 (o_clt 24 22)) t_23_24 u_atT
noncomputable def n_23_17 : e_Y := u_push (.inl 2147483660) n_23_19
theorem t_23_17 : e_Sn 23 17 (e_un n_23_17) := u_pushT (s_bipush (n := (12)) hq_23 (by decide +kernel) rfl ⟨by decide +kernel, by decide +kernel⟩ : e_Sn 23 17 (o_push (.inl 2147483660) 19)) t_23_19
noncomputable def n_23_16 : e_Y := u_ld f_okI f_l1 n_23_17
theorem t_23_16 : e_Sn 23 16 (e_un n_23_16) := u_ldIT f_l1_eq (s_iload (i := .iload_n 1) (len := 1) hq_23 (by decide +kernel) rfl (.inr ⟨1, rfl, rfl, rfl⟩) : e_Sn 23 16 (o_load e_okI 1 17)) t_23_17
noncomputable def n_23_13 : e_Y := u_if y_ge0 (u_old2 (o_iflt 22 16) 22 (u_at 22) n_23_16) (u_at 22) n_23_16
theorem t_23_13 : e_Sn 23 13 (e_un n_23_13) := u_ifltT rfl (s_iflt (off := (9)) hq_23 (by decide +kernel) rfl rfl : e_Sn 23 13 (o_iflt 22 16)) u_atT t_23_16
noncomputable def n_23_12 : e_Y := u_ld f_okI f_l1 n_23_13
theorem t_23_12 : e_Sn 23 12 (e_un n_23_12) := u_ldIT f_l1_eq (s_iload (i := .iload_n 1) (len := 1) hq_23 (by decide +kernel) rfl (.inr ⟨1, rfl, rfl, rfl⟩) : e_Sn 23 12 (o_load e_okI 1 13)) t_23_13
noncomputable def n_23_9 : e_Y := u_putf 2 16 f_okI (u_old (o_putf (e_f1 2 16) e_okI 12) n_23_12) n_23_12
theorem t_23_9 : e_Sn 23 9 (e_un n_23_9) := u_putfT (fun _ => f_okI_eq) (s_putf (ty0 := ey_2) (ok := e_okI) (C := er_2) (T := et_2) (N := 19) (ref := "Plateroomprinter$Engine") (index := 109) (ci := 2) (k := 16) hq_23 ho_23 ⟨rfl, by decide, ei_2, r_m_3_17, .inl rfl⟩ eo_2 en_2 e_oksI (.inl rfl) (by decide +kernel) rfl : e_Sn 23 9 (o_putf (e_f1 2 16) e_okI 12)) t_23_12
noncomputable def n_23_8 : e_Y := u_push (.inl 2147483647) n_23_9
theorem t_23_8 : e_Sn 23 8 (e_un n_23_8) := u_pushT (s_iconst (n := (-1)) hq_23 (by decide +kernel) rfl ⟨by decide +kernel, by decide +kernel⟩ : e_Sn 23 8 (o_push (.inl 2147483647) 9)) t_23_9
noncomputable def n_23_7 : e_Y := u_ld f_okA f_l0 n_23_8
theorem t_23_7 : e_Sn 23 7 (e_un n_23_7) := u_ldAT f_l0_eq (s_aload (i := .aload_n 0) (len := 1) hq_23 (by decide +kernel) rfl (.inr ⟨0, rfl, rfl, rfl⟩) : e_Sn 23 7 (o_load e_okR 0 8)) t_23_8
noncomputable def n_23_6 : e_Y := u_st f_okI f_s1 n_23_7
theorem t_23_6 : e_Sn 23 6 (e_un n_23_6) := u_stIT (fun _ _ _ => f_s1_eq) (s_istore (i := .istore_n 1) (len := 1) hq_23 (by decide +kernel) rfl (.inr ⟨1, rfl, rfl, rfl⟩) : e_Sn 23 6 (o_store e_okI 1 7)) t_23_7
noncomputable def n_23_5 : e_Y := u_bin a_isub (u_old (o_isub 6) n_23_6) n_23_6
theorem t_23_5 : e_Sn 23 5 (e_un n_23_5) := u_isubT (s_isub hq_23 (by decide +kernel) rfl : e_Sn 23 5 (o_isub 6)) t_23_6
noncomputable def n_23_4 : e_Y := u_push (.inl 2147483649) n_23_5
theorem t_23_4 : e_Sn 23 4 (e_un n_23_4) := u_pushT (s_iconst (n := (1)) hq_23 (by decide +kernel) rfl ⟨by decide +kernel, by decide +kernel⟩ : e_Sn 23 4 (o_push (.inl 2147483649) 5)) t_23_5
noncomputable def n_23_1 : e_Y := u_getf 2 13 (u_old (o_getf (e_f1 2 13) 4) n_23_4) n_23_4
theorem t_23_1 : e_Sn 23 1 (e_un n_23_1) := u_getfT (s_getf (C := er_2) (T := et_2) (N := 19) (ref := "Plateroomprinter$Engine") (index := 53) (ci := 2) (k := 13) hq_23 ho_23 ⟨rfl, by decide, ei_2, r_m_3_13, .inl rfl⟩ (by decide +kernel) rfl : e_Sn 23 1 (o_getf (e_f1 2 13) 4)) t_23_4
noncomputable def n_23_0 : e_Y := u_ld f_okA f_l0 n_23_1
theorem t_23_0 : e_Sn 23 0 (e_un n_23_0) := u_ldAT f_l0_eq (s_aload (i := .aload_n 0) (len := 1) hq_23 (by decide +kernel) rfl (.inr ⟨0, rfl, rfl, rfl⟩) : e_Sn 23 0 (o_load e_okR 0 1)) t_23_1
noncomputable def e_tb_23 : e_X := (e_br 171 (e_br 116 (e_lf 0 (e_un n_23_0)) (e_lf 116 (e_un n_23_116))) (e_br 177 (e_lf 171 (e_un n_23_171)) (e_lf 177 (e_un n_23_177))))
theorem e_tk_23 : e_Tb 23 e_tb_23 := (e_brT (e_brT (e_lfT t_23_0) (e_lfT t_23_116)) (e_brT (e_lfT t_23_171) (e_lfT t_23_177)))
theorem hq_25 : (e_ml[25]?).map (·.2.1) = some prog_3_method_3_code := Eq.trans (congrArg (Option.map (fun e => e.2.1)) hy_25) rfl
theorem ho_25 : (e_ml[25]?).map (·.1.cls) = some "Plateroomprinter$Engine" := Eq.trans (congrArg (Option.map (fun e => e.1.cls)) hy_25) rfl
theorem hr_25 : (e_ml[25]?).map (·.2.2.2) = some none := Eq.trans (congrArg (Option.map (fun e => e.2.2.2)) hy_25) rfl
noncomputable def n_25_43 : e_Y := u_retV
theorem t_25_43 : e_Sn 25 43 (e_un n_25_43) := u_retVT (s_vret hq_25 hr_25 (by decide +kernel) : e_Sn 25 43 (o_retv))
noncomputable def n_25_40 : e_Y := u_putf 11 14 f_okI (u_old (o_putf (e_f1 11 14) e_okI 43) n_25_43) n_25_43
theorem t_25_40 : e_Sn 25 40 (e_un n_25_40) := u_putfT (fun _ => f_okI_eq) (s_putf (ty0 := ey_11) (ok := e_okI) (C := er_11) (T := et_11) (N := 15) (ref := "Plateroomprinter$World") (index := 83) (ci := 11) (k := 14) hq_25 ho_25 ⟨rfl, by decide, ei_11, r_m_2_124, .inl rfl⟩ eo_11 en_11 e_oksI (.inl rfl) (by decide +kernel) rfl : e_Sn 25 40 (o_putf (e_f1 11 14) e_okI 43)) t_25_43
noncomputable def n_25_39 : e_Y := u_bin a_iadd (u_old (o_iadd 40) n_25_40) n_25_40
theorem t_25_39 : e_Sn 25 39 (e_un n_25_39) := u_iaddT (s_iadd hq_25 (by decide +kernel) rfl : e_Sn 25 39 (o_iadd 40)) t_25_40
noncomputable def n_25_36 : e_Y := u_getf 2 15 (u_old (o_getf (e_f1 2 15) 39) n_25_39) n_25_39
theorem t_25_36 : e_Sn 25 36 (e_un n_25_36) := u_getfT (s_getf (C := er_2) (T := et_2) (N := 19) (ref := "Plateroomprinter$Engine") (index := 60) (ci := 2) (k := 15) hq_25 ho_25 ⟨rfl, by decide, ei_2, r_m_3_15, .inl rfl⟩ (by decide +kernel) rfl : e_Sn 25 36 (o_getf (e_f1 2 15) 39)) t_25_39
noncomputable def n_25_35 : e_Y := u_ld f_okA f_l0 n_25_36
theorem t_25_35 : e_Sn 25 35 (e_un n_25_35) := u_ldAT f_l0_eq (s_aload (i := .aload_n 0) (len := 1) hq_25 (by decide +kernel) rfl (.inr ⟨0, rfl, rfl, rfl⟩) : e_Sn 25 35 (o_load e_okR 0 36)) t_25_36
noncomputable def n_25_32 : e_Y := u_getf 11 14 (u_old (o_getf (e_f1 11 14) 35) n_25_35) n_25_35
theorem t_25_32 : e_Sn 25 32 (e_un n_25_32) := u_getfT (s_getf (C := er_11) (T := et_11) (N := 15) (ref := "Plateroomprinter$World") (index := 83) (ci := 11) (k := 14) hq_25 ho_25 ⟨rfl, by decide, ei_11, r_m_2_124, .inl rfl⟩ (by decide +kernel) rfl : e_Sn 25 32 (o_getf (e_f1 11 14) 35)) t_25_35
noncomputable def n_25_31 : e_Y := u_old (o_dup 32) n_25_32
theorem t_25_31 : e_Sn 25 31 (e_un n_25_31) := u_oldT (s_dup hq_25 (by decide +kernel) rfl : e_Sn 25 31 (o_dup 32)) t_25_32 e_cg_dup
noncomputable def n_25_28 : e_Y := u_getf 2 0 (u_old (o_getf (e_f1 2 0) 31) n_25_31) n_25_31
theorem t_25_28 : e_Sn 25 28 (e_un n_25_28) := u_getfT (s_getf (C := er_2) (T := et_2) (N := 19) (ref := "Plateroomprinter$Engine") (index := 45) (ci := 2) (k := 0) hq_25 ho_25 ⟨rfl, by decide, ei_2, r_m_2_239, .inl rfl⟩ (by decide +kernel) rfl : e_Sn 25 28 (o_getf (e_f1 2 0) 31)) t_25_31
noncomputable def n_25_27 : e_Y := u_ld f_okA f_l0 n_25_28
theorem t_25_27 : e_Sn 25 27 (e_un n_25_27) := u_ldAT f_l0_eq (s_aload (i := .aload_n 0) (len := 1) hq_25 (by decide +kernel) rfl (.inr ⟨0, rfl, rfl, rfl⟩) : e_Sn 25 27 (o_load e_okR 0 28)) t_25_28
noncomputable def n_25_24 : e_Y := u_putf 11 13 f_okI (u_old (o_putf (e_f1 11 13) e_okI 27) n_25_27) n_25_27
theorem t_25_24 : e_Sn 25 24 (e_un n_25_24) := u_putfT (fun _ => f_okI_eq) (s_putf (ty0 := ey_11) (ok := e_okI) (C := er_11) (T := et_11) (N := 15) (ref := "Plateroomprinter$World") (index := 80) (ci := 11) (k := 13) hq_25 ho_25 ⟨rfl, by decide, ei_11, (r_k2 (List.mem_of_getElem? (i := 121) (by decide +kernel))), .inl rfl⟩ eo_11 en_11 e_oksI (.inl rfl) (by decide +kernel) rfl : e_Sn 25 24 (o_putf (e_f1 11 13) e_okI 27)) t_25_27
noncomputable def n_25_21 : e_Y := u_getf 2 14 (u_old (o_getf (e_f1 2 14) 24) n_25_24) n_25_24
theorem t_25_21 : e_Sn 25 21 (e_un n_25_21) := u_getfT (s_getf (C := er_2) (T := et_2) (N := 19) (ref := "Plateroomprinter$Engine") (index := 57) (ci := 2) (k := 14) hq_25 ho_25 ⟨rfl, by decide, ei_2, r_m_3_14, .inl rfl⟩ (by decide +kernel) rfl : e_Sn 25 21 (o_getf (e_f1 2 14) 24)) t_25_24
noncomputable def n_25_20 : e_Y := u_ld f_okA f_l0 n_25_21
theorem t_25_20 : e_Sn 25 20 (e_un n_25_20) := u_ldAT f_l0_eq (s_aload (i := .aload_n 0) (len := 1) hq_25 (by decide +kernel) rfl (.inr ⟨0, rfl, rfl, rfl⟩) : e_Sn 25 20 (o_load e_okR 0 21)) t_25_21
noncomputable def n_25_17 : e_Y := u_getf 2 0 (u_old (o_getf (e_f1 2 0) 20) n_25_20) n_25_20
theorem t_25_17 : e_Sn 25 17 (e_un n_25_17) := u_getfT (s_getf (C := er_2) (T := et_2) (N := 19) (ref := "Plateroomprinter$Engine") (index := 45) (ci := 2) (k := 0) hq_25 ho_25 ⟨rfl, by decide, ei_2, r_m_2_239, .inl rfl⟩ (by decide +kernel) rfl : e_Sn 25 17 (o_getf (e_f1 2 0) 20)) t_25_20
noncomputable def n_25_16 : e_Y := u_ld f_okA f_l0 n_25_17
theorem t_25_16 : e_Sn 25 16 (e_un n_25_16) := u_ldAT f_l0_eq (s_aload (i := .aload_n 0) (len := 1) hq_25 (by decide +kernel) rfl (.inr ⟨0, rfl, rfl, rfl⟩) : e_Sn 25 16 (o_load e_okR 0 17)) t_25_17
noncomputable def n_25_13 : e_Y := u_putf 11 12 f_okI (u_old (o_putf (e_f1 11 12) e_okI 16) n_25_16) n_25_16
theorem t_25_13 : e_Sn 25 13 (e_un n_25_13) := u_putfT (fun _ => f_okI_eq) (s_putf (ty0 := ey_11) (ok := e_okI) (C := er_11) (T := et_11) (N := 15) (ref := "Plateroomprinter$World") (index := 75) (ci := 11) (k := 12) hq_25 ho_25 ⟨rfl, by decide, ei_11, r_m_2_118, .inl rfl⟩ eo_11 en_11 e_oksI (.inl rfl) (by decide +kernel) rfl : e_Sn 25 13 (o_putf (e_f1 11 12) e_okI 16)) t_25_16
noncomputable def n_25_12 : e_Y := u_bin a_iadd (u_old (o_iadd 13) n_25_13) n_25_13
theorem t_25_12 : e_Sn 25 12 (e_un n_25_12) := u_iaddT (s_iadd hq_25 (by decide +kernel) rfl : e_Sn 25 12 (o_iadd 13)) t_25_13
noncomputable def n_25_9 : e_Y := u_getf 2 14 (u_old (o_getf (e_f1 2 14) 12) n_25_12) n_25_12
theorem t_25_9 : e_Sn 25 9 (e_un n_25_9) := u_getfT (s_getf (C := er_2) (T := et_2) (N := 19) (ref := "Plateroomprinter$Engine") (index := 57) (ci := 2) (k := 14) hq_25 ho_25 ⟨rfl, by decide, ei_2, r_m_3_14, .inl rfl⟩ (by decide +kernel) rfl : e_Sn 25 9 (o_getf (e_f1 2 14) 12)) t_25_12
noncomputable def n_25_8 : e_Y := u_ld f_okA f_l0 n_25_9
theorem t_25_8 : e_Sn 25 8 (e_un n_25_8) := u_ldAT f_l0_eq (s_aload (i := .aload_n 0) (len := 1) hq_25 (by decide +kernel) rfl (.inr ⟨0, rfl, rfl, rfl⟩) : e_Sn 25 8 (o_load e_okR 0 9)) t_25_9
noncomputable def n_25_5 : e_Y := u_getf 11 12 (u_old (o_getf (e_f1 11 12) 8) n_25_8) n_25_8
theorem t_25_5 : e_Sn 25 5 (e_un n_25_5) := u_getfT (s_getf (C := er_11) (T := et_11) (N := 15) (ref := "Plateroomprinter$World") (index := 75) (ci := 11) (k := 12) hq_25 ho_25 ⟨rfl, by decide, ei_11, r_m_2_118, .inl rfl⟩ (by decide +kernel) rfl : e_Sn 25 5 (o_getf (e_f1 11 12) 8)) t_25_8
noncomputable def n_25_4 : e_Y := u_old (o_dup 5) n_25_5
theorem t_25_4 : e_Sn 25 4 (e_un n_25_4) := u_oldT (s_dup hq_25 (by decide +kernel) rfl : e_Sn 25 4 (o_dup 5)) t_25_5 e_cg_dup
noncomputable def n_25_1 : e_Y := u_getf 2 0 (u_old (o_getf (e_f1 2 0) 4) n_25_4) n_25_4
theorem t_25_1 : e_Sn 25 1 (e_un n_25_1) := u_getfT (s_getf (C := er_2) (T := et_2) (N := 19) (ref := "Plateroomprinter$Engine") (index := 45) (ci := 2) (k := 0) hq_25 ho_25 ⟨rfl, by decide, ei_2, r_m_2_239, .inl rfl⟩ (by decide +kernel) rfl : e_Sn 25 1 (o_getf (e_f1 2 0) 4)) t_25_4
noncomputable def n_25_0 : e_Y := u_ld f_okA f_l0 n_25_1
theorem t_25_0 : e_Sn 25 0 (e_un n_25_0) := u_ldAT f_l0_eq (s_aload (i := .aload_n 0) (len := 1) hq_25 (by decide +kernel) rfl (.inr ⟨0, rfl, rfl, rfl⟩) : e_Sn 25 0 (o_load e_okR 0 1)) t_25_1
noncomputable def e_tb_25 : e_X := (e_lf 0 (e_un n_25_0))
theorem e_tk_25 : e_Tb 25 e_tb_25 := (e_lfT t_25_0)
theorem hq_26 : (e_ml[26]?).map (·.2.1) = some prog_3_method_8_code := Eq.trans (congrArg (Option.map (fun e => e.2.1)) hy_26) rfl
theorem ho_26 : (e_ml[26]?).map (·.1.cls) = some "Plateroomprinter$Engine" := Eq.trans (congrArg (Option.map (fun e => e.1.cls)) hy_26) rfl
theorem hr_26 : (e_ml[26]?).map (·.2.2.2) = some (some .int) := Eq.trans (congrArg (Option.map (fun e => e.2.2.2)) hy_26) rfl
noncomputable def n_26_26 : e_Y := u_retI
theorem t_26_26 : e_Sn 26 26 (e_un n_26_26) := u_retIT (s_iret hq_26 hr_26 (by decide +kernel) : e_Sn 26 26 (o_ret e_okI))
noncomputable def n_26_25 : e_Y := u_push (.inl 2147483648) n_26_26
theorem t_26_25 : e_Sn 26 25 (e_un n_26_25) := u_pushT (s_iconst (n := (0)) hq_26 (by decide +kernel) rfl ⟨by decide +kernel, by decide +kernel⟩ : e_Sn 26 25 (o_push (.inl 2147483648) 26)) t_26_26
noncomputable def n_26_17 : e_Y := u_jmp y_le (u_old2 (o_cgt 20 25) 20 (u_at 20) n_26_25) (u_at 20) n_26_25
theorem t_26_17 : e_Sn 26 17 (e_un n_26_17) := u_cgtT rfl (s_cle (off := (8)) hq_26 (by decide +kernel) rfl rfl : e_Sn 26 17 (o_cgt 20 25)) u_atT t_26_25
noncomputable def n_26_14 : e_Y := u_push (.inl 2147488648) n_26_17
theorem t_26_14 : e_Sn 26 14 (e_un n_26_14) := u_pushT (s_sipush (n := (5000)) hq_26 (by decide +kernel) rfl ⟨by decide +kernel, by decide +kernel⟩ : e_Sn 26 14 (o_push (.inl 2147488648) 17)) t_26_17
noncomputable def n_26_11 : e_Y := u_getf 2 14 (u_old (o_getf (e_f1 2 14) 14) n_26_14) n_26_14
theorem t_26_11 : e_Sn 26 11 (e_un n_26_11) := u_getfT (s_getf (C := er_2) (T := et_2) (N := 19) (ref := "Plateroomprinter$Engine") (index := 57) (ci := 2) (k := 14) hq_26 ho_26 ⟨rfl, by decide, ei_2, r_m_3_14, .inl rfl⟩ (by decide +kernel) rfl : e_Sn 26 11 (o_getf (e_f1 2 14) 14)) t_26_14
noncomputable def n_26_10 : e_Y := u_ld f_okA f_l0 n_26_11
theorem t_26_10 : e_Sn 26 10 (e_un n_26_10) := u_ldAT f_l0_eq (s_aload (i := .aload_n 0) (len := 1) hq_26 (by decide +kernel) rfl (.inr ⟨0, rfl, rfl, rfl⟩) : e_Sn 26 10 (o_load e_okR 0 11)) t_26_11
noncomputable def n_26_7 : e_Y := u_putf 2 14 f_okI (u_old (o_putf (e_f1 2 14) e_okI 10) n_26_10) n_26_10
theorem t_26_7 : e_Sn 26 7 (e_un n_26_7) := u_putfT (fun _ => f_okI_eq) (s_putf (ty0 := ey_2) (ok := e_okI) (C := er_2) (T := et_2) (N := 19) (ref := "Plateroomprinter$Engine") (index := 57) (ci := 2) (k := 14) hq_26 ho_26 ⟨rfl, by decide, ei_2, r_m_3_14, .inl rfl⟩ eo_2 en_2 e_oksI (.inl rfl) (by decide +kernel) rfl : e_Sn 26 7 (o_putf (e_f1 2 14) e_okI 10)) t_26_10
noncomputable def n_26_6 : e_Y := u_bin a_iadd (u_old (o_iadd 7) n_26_7) n_26_7
theorem t_26_6 : e_Sn 26 6 (e_un n_26_6) := u_iaddT (s_iadd hq_26 (by decide +kernel) rfl : e_Sn 26 6 (o_iadd 7)) t_26_7
noncomputable def n_26_5 : e_Y := u_ld f_okI f_l1 n_26_6
theorem t_26_5 : e_Sn 26 5 (e_un n_26_5) := u_ldIT f_l1_eq (s_iload (i := .iload_n 1) (len := 1) hq_26 (by decide +kernel) rfl (.inr ⟨1, rfl, rfl, rfl⟩) : e_Sn 26 5 (o_load e_okI 1 6)) t_26_6
noncomputable def n_26_2 : e_Y := u_getf 2 14 (u_old (o_getf (e_f1 2 14) 5) n_26_5) n_26_5
theorem t_26_2 : e_Sn 26 2 (e_un n_26_2) := u_getfT (s_getf (C := er_2) (T := et_2) (N := 19) (ref := "Plateroomprinter$Engine") (index := 57) (ci := 2) (k := 14) hq_26 ho_26 ⟨rfl, by decide, ei_2, r_m_3_14, .inl rfl⟩ (by decide +kernel) rfl : e_Sn 26 2 (o_getf (e_f1 2 14) 5)) t_26_5
noncomputable def n_26_1 : e_Y := u_old (o_dup 2) n_26_2
theorem t_26_1 : e_Sn 26 1 (e_un n_26_1) := u_oldT (s_dup hq_26 (by decide +kernel) rfl : e_Sn 26 1 (o_dup 2)) t_26_2 e_cg_dup
noncomputable def n_26_0 : e_Y := u_ld f_okA f_l0 n_26_1
theorem t_26_0 : e_Sn 26 0 (e_un n_26_0) := u_ldAT f_l0_eq (s_aload (i := .aload_n 0) (len := 1) hq_26 (by decide +kernel) rfl (.inr ⟨0, rfl, rfl, rfl⟩) : e_Sn 26 0 (o_load e_okR 0 1)) t_26_1
noncomputable def e_tb_26 : e_X := (e_lf 0 (e_un n_26_0))
theorem e_tk_26 : e_Tb 26 e_tb_26 := (e_lfT t_26_0)
end SN
