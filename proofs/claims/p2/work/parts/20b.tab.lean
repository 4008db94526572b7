/-! TABLES, by program -/
section SN
theorem hq_16 : (e_ml[16]?).map (·.2.1) = some prog_3_method_11_code := rfl
theorem ho_16 : (e_ml[16]?).map (·.1.cls) = some "Plateroomprinter$Engine" := rfl
theorem hr_16 : (e_ml[16]?).map (·.2.2.2) = some (some .int) := rfl
noncomputable def n_16_82 : e_Y := u_retI
theorem t_16_82 : e_Sn 16 82 (e_un n_16_82) := u_retIT (s_iret hq_16 hr_16 (by decide +kernel) : e_Sn 16 82 (o_ret e_okI))
noncomputable def n_16_81 : e_Y := u_push (.inl 2147483648) n_16_82
theorem t_16_81 : e_Sn 16 81 (e_un n_16_81) := u_pushT (s_iconst (n := (0)) hq_16 (by decide +kernel) rfl ⟨by decide +kernel, by decide +kernel⟩ : e_Sn 16 81 (o_push (.inl 2147483648) 82)) t_16_82
noncomputable def n_16_78 : e_Y := u_old (o_putf (e_f1 2 13) e_okI 81) n_16_81
theorem t_16_78 : e_Sn 16 78 (e_un n_16_78) := u_oldT (s_putf (ty0 := ey_2) (ok := e_okI) (C := er_2) (T := et_2) (N := 19) (ref := "Plateroomprinter$Engine") (index := 53) (ci := 2) (k := 13) hq_16 ho_16 ⟨rfl, by decide, ei_2, (List.mem_of_getElem? (i := 630) (by decide +kernel)), .inl rfl⟩ eo_2 en_2 e_oksI (.inl rfl) (by decide +kernel) rfl : e_Sn 16 78 (o_putf (e_f1 2 13) e_okI 81)) t_16_81 (e_cg_putf (e_f1 2 13) e_okI)
noncomputable def n_16_77 : e_Y := u_bin a_iadd (u_old (o_iadd 78) n_16_78) n_16_78
theorem t_16_77 : e_Sn 16 77 (e_un n_16_77) := u_iaddT (s_iadd hq_16 (by decide +kernel) rfl : e_Sn 16 77 (o_iadd 78)) t_16_78
noncomputable def n_16_76 : e_Y := u_push (.inl 2147483649) n_16_77
theorem t_16_76 : e_Sn 16 76 (e_un n_16_76) := u_pushT (s_iconst (n := (1)) hq_16 (by decide +kernel) rfl ⟨by decide +kernel, by decide +kernel⟩ : e_Sn 16 76 (o_push (.inl 2147483649) 77)) t_16_77
noncomputable def n_16_73 : e_Y := u_getf 2 13 (u_old (o_getf (e_f1 2 13) 76) n_16_76) n_16_76
theorem t_16_73 : e_Sn 16 73 (e_un n_16_73) := u_getfT (s_getf (C := er_2) (T := et_2) (N := 19) (ref := "Plateroomprinter$Engine") (index := 53) (ci := 2) (k := 13) hq_16 ho_16 ⟨rfl, by decide, ei_2, (List.mem_of_getElem? (i := 630) (by decide +kernel)), .inl rfl⟩ (by decide +kernel) rfl : e_Sn 16 73 (o_getf (e_f1 2 13) 76)) t_16_76
noncomputable def n_16_72 : e_Y := u_old (o_dup 73) n_16_73
theorem t_16_72 : e_Sn 16 72 (e_un n_16_72) := u_oldT (s_dup hq_16 (by decide +kernel) rfl : e_Sn 16 72 (o_dup 73)) t_16_73 e_cg_dup
noncomputable def n_16_71 : e_Y := u_ld f_okA f_l0 n_16_72
theorem t_16_71 : e_Sn 16 71 (e_un n_16_71) := u_ldAT f_l0_eq (s_aload (i := .aload_n 0) (len := 1) hq_16 (by decide +kernel) rfl (.inr ⟨0, rfl, rfl, rfl⟩) : e_Sn 16 71 (o_load e_okR 0 72)) t_16_72
noncomputable def n_16_70 : e_Y := u_old (o_ast 0 e_okI 71) n_16_71
theorem t_16_70 : e_Sn 16 70 (e_un n_16_70) := u_oldT (s_iast hq_16 (by decide +kernel) rfl : e_Sn 16 70 (o_ast 0 e_okI 71)) t_16_71 (e_cg_ast 0 e_okI)
noncomputable def n_16_69 : e_Y := u_push (.inl 2147483648) n_16_70
theorem t_16_69 : e_Sn 16 69 (e_un n_16_69) := u_pushT (s_iconst (n := (0)) hq_16 (by decide +kernel) rfl ⟨by decide +kernel, by decide +kernel⟩ : e_Sn 16 69 (o_push (.inl 2147483648) 70)) t_16_70
noncomputable def n_16_66 : e_Y := u_getf 2 13 (u_old (o_getf (e_f1 2 13) 69) n_16_69) n_16_69
theorem t_16_66 : e_Sn 16 66 (e_un n_16_66) := u_getfT (s_getf (C := er_2) (T := et_2) (N := 19) (ref := "Plateroomprinter$Engine") (index := 53) (ci := 2) (k := 13) hq_16 ho_16 ⟨rfl, by decide, ei_2, (List.mem_of_getElem? (i := 630) (by decide +kernel)), .inl rfl⟩ (by decide +kernel) rfl : e_Sn 16 66 (o_getf (e_f1 2 13) 69)) t_16_69
noncomputable def n_16_65 : e_Y := u_ld f_okA f_l0 n_16_66
theorem t_16_65 : e_Sn 16 65 (e_un n_16_65) := u_ldAT f_l0_eq (s_aload (i := .aload_n 0) (len := 1) hq_16 (by decide +kernel) rfl (.inr ⟨0, rfl, rfl, rfl⟩) : e_Sn 16 65 (o_load e_okR 0 66)) t_16_66
noncomputable def n_16_62 : e_Y := u_getf 2 9 (u_old (o_getf (e_f1 2 9) 65) n_16_65) n_16_65
theorem t_16_62 : e_Sn 16 62 (e_un n_16_62) := u_getfT (s_getf (C := er_2) (T := et_2) (N := 19) (ref := "Plateroomprinter$Engine") (index := 33) (ci := 2) (k := 9) hq_16 ho_16 ⟨rfl, by decide, ei_2, (List.mem_of_getElem? (i := 626) (by decide +kernel)), .inl rfl⟩ (by decide +kernel) rfl : e_Sn 16 62 (o_getf (e_f1 2 9) 65)) t_16_65
noncomputable def n_16_61 : e_Y := u_ld f_okA f_l0 n_16_62
theorem t_16_61 : e_Sn 16 61 (e_un n_16_61) := u_ldAT f_l0_eq (s_aload (i := .aload_n 0) (len := 1) hq_16 (by decide +kernel) rfl (.inr ⟨0, rfl, rfl, rfl⟩) : e_Sn 16 61 (o_load e_okR 0 62)) t_16_62
noncomputable def n_16_60 : e_Y := u_old (o_ast 0 e_okI 61) n_16_61
theorem t_16_60 : e_Sn 16 60 (e_un n_16_60) := u_oldT (s_iast hq_16 (by decide +kernel) rfl : e_Sn 16 60 (o_ast 0 e_okI 61)) t_16_61 (e_cg_ast 0 e_okI)
noncomputable def n_16_59 : e_Y := u_ld f_okI f_l1 n_16_60
theorem t_16_59 : e_Sn 16 59 (e_un n_16_59) := u_ldIT f_l1_eq (s_iload (i := .iload_n 1) (len := 1) hq_16 (by decide +kernel) rfl (.inr ⟨1, rfl, rfl, rfl⟩) : e_Sn 16 59 (o_load e_okI 1 60)) t_16_60
noncomputable def n_16_56 : e_Y := u_getf 2 13 (u_old (o_getf (e_f1 2 13) 59) n_16_59) n_16_59
theorem t_16_56 : e_Sn 16 56 (e_un n_16_56) := u_getfT (s_getf (C := er_2) (T := et_2) (N := 19) (ref := "Plateroomprinter$Engine") (index := 53) (ci := 2) (k := 13) hq_16 ho_16 ⟨rfl, by decide, ei_2, (List.mem_of_getElem? (i := 630) (by decide +kernel)), .inl rfl⟩ (by decide +kernel) rfl : e_Sn 16 56 (o_getf (e_f1 2 13) 59)) t_16_59
noncomputable def n_16_55 : e_Y := u_ld f_okA f_l0 n_16_56
theorem t_16_55 : e_Sn 16 55 (e_un n_16_55) := u_ldAT f_l0_eq (s_aload (i := .aload_n 0) (len := 1) hq_16 (by decide +kernel) rfl (.inr ⟨0, rfl, rfl, rfl⟩) : e_Sn 16 55 (o_load e_okR 0 56)) t_16_56
noncomputable def n_16_52 : e_Y := u_getf 2 8 (u_old (o_getf (e_f1 2 8) 55) n_16_55) n_16_55
theorem t_16_52 : e_Sn 16 52 (e_un n_16_52) := u_getfT (s_getf (C := er_2) (T := et_2) (N := 19) (ref := "Plateroomprinter$Engine") (index := 30) (ci := 2) (k := 8) hq_16 ho_16 ⟨rfl, by decide, ei_2, (List.mem_of_getElem? (i := 625) (by decide +kernel)), .inl rfl⟩ (by decide +kernel) rfl : e_Sn 16 52 (o_getf (e_f1 2 8) 55)) t_16_55
noncomputable def n_16_51 : e_Y := u_ld f_okA f_l0 n_16_52
theorem t_16_51 : e_Sn 16 51 (e_un n_16_51) := u_ldAT f_l0_eq (s_aload (i := .aload_n 0) (len := 1) hq_16 (by decide +kernel) rfl (.inr ⟨0, rfl, rfl, rfl⟩) : e_Sn 16 51 (o_load e_okR 0 52)) t_16_52
noncomputable def n_16_50 : e_Y := u_old (o_ast 0 e_okI 51) n_16_51
theorem t_16_50 : e_Sn 16 50 (e_un n_16_50) := u_oldT (s_iast hq_16 (by decide +kernel) rfl : e_Sn 16 50 (o_ast 0 e_okI 51)) t_16_51 (e_cg_ast 0 e_okI)
noncomputable def n_16_49 : e_Y := u_ld f_okI f_l1 n_16_50
theorem t_16_49 : e_Sn 16 49 (e_un n_16_49) := u_ldIT f_l1_eq (s_iload (i := .iload_n 1) (len := 1) hq_16 (by decide +kernel) rfl (.inr ⟨1, rfl, rfl, rfl⟩) : e_Sn 16 49 (o_load e_okI 1 50)) t_16_50
noncomputable def n_16_46 : e_Y := u_getf 2 13 (u_old (o_getf (e_f1 2 13) 49) n_16_49) n_16_49
theorem t_16_46 : e_Sn 16 46 (e_un n_16_46) := u_getfT (s_getf (C := er_2) (T := et_2) (N := 19) (ref := "Plateroomprinter$Engine") (index := 53) (ci := 2) (k := 13) hq_16 ho_16 ⟨rfl, by decide, ei_2, (List.mem_of_getElem? (i := 630) (by decide +kernel)), .inl rfl⟩ (by decide +kernel) rfl : e_Sn 16 46 (o_getf (e_f1 2 13) 49)) t_16_49
noncomputable def n_16_45 : e_Y := u_ld f_okA f_l0 n_16_46
theorem t_16_45 : e_Sn 16 45 (e_un n_16_45) := u_ldAT f_l0_eq (s_aload (i := .aload_n 0) (len := 1) hq_16 (by decide +kernel) rfl (.inr ⟨0, rfl, rfl, rfl⟩) : e_Sn 16 45 (o_load e_okR 0 46)) t_16_46
noncomputable def n_16_42 : e_Y := u_getf 2 7 (u_old (o_getf (e_f1 2 7) 45) n_16_45) n_16_45
theorem t_16_42 : e_Sn 16 42 (e_un n_16_42) := u_getfT (s_getf (C := er_2) (T := et_2) (N := 19) (ref := "Plateroomprinter$Engine") (index := 27) (ci := 2) (k := 7) hq_16 ho_16 ⟨rfl, by decide, ei_2, (List.mem_of_getElem? (i := 624) (by decide +kernel)), .inl rfl⟩ (by decide +kernel) rfl : e_Sn 16 42 (o_getf (e_f1 2 7) 45)) t_16_45
noncomputable def n_16_41 : e_Y := u_ld f_okA f_l0 n_16_42
theorem t_16_41 : e_Sn 16 41 (e_un n_16_41) := u_ldAT f_l0_eq (s_aload (i := .aload_n 0) (len := 1) hq_16 (by decide +kernel) rfl (.inr ⟨0, rfl, rfl, rfl⟩) : e_Sn 16 41 (o_load e_okR 0 42)) t_16_42
noncomputable def n_16_40 : e_Y := u_old (o_ast 0 e_okI 41) n_16_41
theorem t_16_40 : e_Sn 16 40 (e_un n_16_40) := u_oldT (s_iast hq_16 (by decide +kernel) rfl : e_Sn 16 40 (o_ast 0 e_okI 41)) t_16_41 (e_cg_ast 0 e_okI)
noncomputable def n_16_39 : e_Y := u_bin a_iadd (u_old (o_iadd 40) n_16_40) n_16_40
theorem t_16_39 : e_Sn 16 39 (e_un n_16_39) := u_iaddT (s_iadd hq_16 (by decide +kernel) rfl : e_Sn 16 39 (o_iadd 40)) t_16_40
noncomputable def n_16_38 : e_Y := u_ld f_okI f_l2 n_16_39
theorem t_16_38 : e_Sn 16 38 (e_un n_16_38) := u_ldIT f_l2_eq (s_iload (i := .iload_n 2) (len := 1) hq_16 (by decide +kernel) rfl (.inr ⟨2, rfl, rfl, rfl⟩) : e_Sn 16 38 (o_load e_okI 2 39)) t_16_39
noncomputable def n_16_37 : e_Y := u_ld f_okI f_l1 n_16_38
theorem t_16_37 : e_Sn 16 37 (e_un n_16_37) := u_ldIT f_l1_eq (s_iload (i := .iload_n 1) (len := 1) hq_16 (by decide +kernel) rfl (.inr ⟨1, rfl, rfl, rfl⟩) : e_Sn 16 37 (o_load e_okI 1 38)) t_16_38
noncomputable def n_16_34 : e_Y := u_getf 2 13 (u_old (o_getf (e_f1 2 13) 37) n_16_37) n_16_37
theorem t_16_34 : e_Sn 16 34 (e_un n_16_34) := u_getfT (s_getf (C := er_2) (T := et_2) (N := 19) (ref := "Plateroomprinter$Engine") (index := 53) (ci := 2) (k := 13) hq_16 ho_16 ⟨rfl, by decide, ei_2, (List.mem_of_getElem? (i := 630) (by decide +kernel)), .inl rfl⟩ (by decide +kernel) rfl : e_Sn 16 34 (o_getf (e_f1 2 13) 37)) t_16_37
noncomputable def n_16_33 : e_Y := u_ld f_okA f_l0 n_16_34
theorem t_16_33 : e_Sn 16 33 (e_un n_16_33) := u_ldAT f_l0_eq (s_aload (i := .aload_n 0) (len := 1) hq_16 (by decide +kernel) rfl (.inr ⟨0, rfl, rfl, rfl⟩) : e_Sn 16 33 (o_load e_okR 0 34)) t_16_34
noncomputable def n_16_30 : e_Y := u_getf 2 6 (u_old (o_getf (e_f1 2 6) 33) n_16_33) n_16_33
theorem t_16_30 : e_Sn 16 30 (e_un n_16_30) := u_getfT (s_getf (C := er_2) (T := et_2) (N := 19) (ref := "Plateroomprinter$Engine") (index := 24) (ci := 2) (k := 6) hq_16 ho_16 ⟨rfl, by decide, ei_2, (List.mem_of_getElem? (i := 623) (by decide +kernel)), .inl rfl⟩ (by decide +kernel) rfl : e_Sn 16 30 (o_getf (e_f1 2 6) 33)) t_16_33
noncomputable def n_16_29 : e_Y := u_ld f_okA f_l0 n_16_30
theorem t_16_29 : e_Sn 16 29 (e_un n_16_29) := u_ldAT f_l0_eq (s_aload (i := .aload_n 0) (len := 1) hq_16 (by decide +kernel) rfl (.inr ⟨0, rfl, rfl, rfl⟩) : e_Sn 16 29 (o_load e_okR 0 30)) t_16_30
noncomputable def n_16_28 : e_Y := u_old (o_ast 0 e_okI 29) n_16_29
theorem t_16_28 : e_Sn 16 28 (e_un n_16_28) := u_oldT (s_iast hq_16 (by decide +kernel) rfl : e_Sn 16 28 (o_ast 0 e_okI 29)) t_16_29 (e_cg_ast 0 e_okI)
noncomputable def n_16_27 : e_Y := u_ld f_okI f_l1 n_16_28
theorem t_16_27 : e_Sn 16 27 (e_un n_16_27) := u_ldIT f_l1_eq (s_iload (i := .iload_n 1) (len := 1) hq_16 (by decide +kernel) rfl (.inr ⟨1, rfl, rfl, rfl⟩) : e_Sn 16 27 (o_load e_okI 1 28)) t_16_28
noncomputable def n_16_24 : e_Y := u_getf 2 13 (u_old (o_getf (e_f1 2 13) 27) n_16_27) n_16_27
theorem t_16_24 : e_Sn 16 24 (e_un n_16_24) := u_getfT (s_getf (C := er_2) (T := et_2) (N := 19) (ref := "Plateroomprinter$Engine") (index := 53) (ci := 2) (k := 13) hq_16 ho_16 ⟨rfl, by decide, ei_2, (List.mem_of_getElem? (i := 630) (by decide +kernel)), .inl rfl⟩ (by decide +kernel) rfl : e_Sn 16 24 (o_getf (e_f1 2 13) 27)) t_16_27
noncomputable def n_16_23 : e_Y := u_ld f_okA f_l0 n_16_24
theorem t_16_23 : e_Sn 16 23 (e_un n_16_23) := u_ldAT f_l0_eq (s_aload (i := .aload_n 0) (len := 1) hq_16 (by decide +kernel) rfl (.inr ⟨0, rfl, rfl, rfl⟩) : e_Sn 16 23 (o_load e_okR 0 24)) t_16_24
noncomputable def n_16_20 : e_Y := u_getf 2 5 (u_old (o_getf (e_f1 2 5) 23) n_16_23) n_16_23
theorem t_16_20 : e_Sn 16 20 (e_un n_16_20) := u_getfT (s_getf (C := er_2) (T := et_2) (N := 19) (ref := "Plateroomprinter$Engine") (index := 21) (ci := 2) (k := 5) hq_16 ho_16 ⟨rfl, by decide, ei_2, (List.mem_of_getElem? (i := 622) (by decide +kernel)), .inl rfl⟩ (by decide +kernel) rfl : e_Sn 16 20 (o_getf (e_f1 2 5) 23)) t_16_23
noncomputable def n_16_19 : e_Y := u_ld f_okA f_l0 n_16_20
theorem t_16_19 : e_Sn 16 19 (e_un n_16_19) := u_ldAT f_l0_eq (s_aload (i := .aload_n 0) (len := 1) hq_16 (by decide +kernel) rfl (.inr ⟨0, rfl, rfl, rfl⟩) : e_Sn 16 19 (o_load e_okR 0 20)) t_16_20
noncomputable def n_16_13 : e_Y := u_jmp y_ge (u_old2 (o_clt 19 16) 19 n_16_19 (u_at 16)) n_16_19 (u_at 16)
theorem t_16_13 : e_Sn 16 13 (e_un n_16_13) := u_cltT rfl (s_clt (off := (6)) hq_16 (by decide +kernel) rfl rfl : e_Sn 16 13 (o_clt 19 16)) t_16_19 u_atT
noncomputable def n_16_11 : e_Y := u_push (.inl 2147483660) n_16_13
theorem t_16_11 : e_Sn 16 11 (e_un n_16_11) := u_pushT (s_bipush (n := (12)) hq_16 (by decide +kernel) rfl ⟨by decide +kernel, by decide +kernel⟩ : e_Sn 16 11 (o_push (.inl 2147483660) 13)) t_16_13
noncomputable def n_16_8 : e_Y := u_getf 2 13 (u_old (o_getf (e_f1 2 13) 11) n_16_11) n_16_11
theorem t_16_8 : e_Sn 16 8 (e_un n_16_8) := u_getfT (s_getf (C := er_2) (T := et_2) (N := 19) (ref := "Plateroomprinter$Engine") (index := 53) (ci := 2) (k := 13) hq_16 ho_16 ⟨rfl, by decide, ei_2, (List.mem_of_getElem? (i := 630) (by decide +kernel)), .inl rfl⟩ (by decide +kernel) rfl : e_Sn 16 8 (o_getf (e_f1 2 13) 11)) t_16_11
noncomputable def n_16_7 : e_Y := u_ld f_okA f_l0 n_16_8
theorem t_16_7 : e_Sn 16 7 (e_un n_16_7) := u_ldAT f_l0_eq (s_aload (i := .aload_n 0) (len := 1) hq_16 (by decide +kernel) rfl (.inr ⟨0, rfl, rfl, rfl⟩) : e_Sn 16 7 (o_load e_okR 0 8)) t_16_8
noncomputable def n_16_4 : e_Y := u_if y_ge0 (u_old2 (o_iflt 16 7) 16 (u_at 16) n_16_7) (u_at 16) n_16_7
theorem t_16_4 : e_Sn 16 4 (e_un n_16_4) := u_ifltT rfl (s_iflt (off := (12)) hq_16 (by decide +kernel) rfl rfl : e_Sn 16 4 (o_iflt 16 7)) u_atT t_16_7
noncomputable def n_16_1 : e_Y := u_getf 2 13 (u_old (o_getf (e_f1 2 13) 4) n_16_4) n_16_4
theorem t_16_1 : e_Sn 16 1 (e_un n_16_1) := u_getfT (s_getf (C := er_2) (T := et_2) (N := 19) (ref := "Plateroomprinter$Engine") (index := 53) (ci := 2) (k := 13) hq_16 ho_16 ⟨rfl, by decide, ei_2, (List.mem_of_getElem? (i := 630) (by decide +kernel)), .inl rfl⟩ (by decide +kernel) rfl : e_Sn 16 1 (o_getf (e_f1 2 13) 4)) t_16_4
noncomputable def n_16_0 : e_Y := u_ld f_okA f_l0 n_16_1
theorem t_16_0 : e_Sn 16 0 (e_un n_16_0) := u_ldAT f_l0_eq (s_aload (i := .aload_n 0) (len := 1) hq_16 (by decide +kernel) rfl (.inr ⟨0, rfl, rfl, rfl⟩) : e_Sn 16 0 (o_load e_okR 0 1)) t_16_1
noncomputable def e_tb_16 : e_X := (e_lf 0 (e_un n_16_0))
theorem e_tk_16 : e_Tb 16 e_tb_16 := (e_lfT t_16_0)
theorem hq_13 : (e_ml[13]?).map (·.2.1) = some prog_3_method_2_code := rfl
theorem ho_13 : (e_ml[13]?).map (·.1.cls) = some "Plateroomprinter$Engine" := rfl
theorem hr_13 : (e_ml[13]?).map (·.2.2.2) = some none := rfl
noncomputable def n_13_34 : e_Y := u_tab (o_retv)
theorem t_13_34 : e_Sn 13 34 (e_un n_13_34) := u_tabT (s_vret hq_13 hr_13 (by decide +kernel) : e_Sn 13 34 (o_retv))
noncomputable def n_13_33 : e_Y := u_pop n_13_34
theorem t_13_33 : e_Sn 13 33 (e_un n_13_33) := u_popT (s_pop hq_13 (by decide +kernel) rfl : e_Sn 13 33 (o_pop 34)) t_13_34
noncomputable def n_13_30 : e_Y := u_callV 2 16 3 22 3 n_16_0 n_13_33
theorem t_13_30 : e_Sn 13 30 (e_un n_13_30) := u_callVT rfl (s_callV (ci := 2) (C := er_2) (T := et_2) (N := 19) (index := 71) hq_13 ho_13 hy_16 hp_16 hc_16 hi_16 hd_16 (List.mem_of_getElem? (i := 784) (by decide +kernel)) hs_16 (List.mem_of_getElem? (i := 0) (by decide +kernel)) rfl (by decide +kernel) rfl : e_Sn 13 30 (o_callV (e_s1 2 16 3) 3 33)) t_16_0 t_13_33
noncomputable def n_13_27 : e_Y := u_getf 1 3 (u_old (o_getf (e_f1 1 3) 30) n_13_30) n_13_30
theorem t_13_27 : e_Sn 13 27 (e_un n_13_27) := u_getfT (s_getf (C := er_1) (T := et_1) (N := 4) (ref := "Plateroomprinter$Code") (index := 68) (ci := 1) (k := 3) hq_13 ho_13 ⟨rfl, by decide, ei_1, (List.mem_of_getElem? (i := 205) (by decide +kernel)), .inl rfl⟩ (by decide +kernel) rfl : e_Sn 13 27 (o_getf (e_f1 1 3) 30)) t_13_30
noncomputable def n_13_24 : e_Y := u_getf 2 1 (u_old (o_getf (e_f1 2 1) 27) n_13_27) n_13_27
theorem t_13_24 : e_Sn 13 24 (e_un n_13_24) := u_getfT (s_getf (C := er_2) (T := et_2) (N := 19) (ref := "Plateroomprinter$Engine") (index := 49) (ci := 2) (k := 1) hq_13 ho_13 ⟨rfl, by decide, ei_2, (List.mem_of_getElem? (i := 617) (by decide +kernel)), .inl rfl⟩ (by decide +kernel) rfl : e_Sn 13 24 (o_getf (e_f1 2 1) 27)) t_13_27
noncomputable def n_13_23 : e_Y := u_ld f_okA f_l0 n_13_24
theorem t_13_23 : e_Sn 13 23 (e_un n_13_23) := u_ldAT f_l0_eq (s_aload (i := .aload_n 0) (len := 1) hq_13 (by decide +kernel) rfl (.inr ⟨0, rfl, rfl, rfl⟩) : e_Sn 13 23 (o_load e_okR 0 24)) t_13_24
noncomputable def n_13_20 : e_Y := u_getf 1 2 (u_old (o_getf (e_f1 1 2) 23) n_13_23) n_13_23
theorem t_13_20 : e_Sn 13 20 (e_un n_13_20) := u_getfT (s_getf (C := er_1) (T := et_1) (N := 4) (ref := "Plateroomprinter$Code") (index := 63) (ci := 1) (k := 2) hq_13 ho_13 ⟨rfl, by decide, ei_1, (List.mem_of_getElem? (i := 201) (by decide +kernel)), .inl rfl⟩ (by decide +kernel) rfl : e_Sn 13 20 (o_getf (e_f1 1 2) 23)) t_13_23
noncomputable def n_13_17 : e_Y := u_getf 2 1 (u_old (o_getf (e_f1 2 1) 20) n_13_20) n_13_20
theorem t_13_17 : e_Sn 13 17 (e_un n_13_17) := u_getfT (s_getf (C := er_2) (T := et_2) (N := 19) (ref := "Plateroomprinter$Engine") (index := 49) (ci := 2) (k := 1) hq_13 ho_13 ⟨rfl, by decide, ei_2, (List.mem_of_getElem? (i := 617) (by decide +kernel)), .inl rfl⟩ (by decide +kernel) rfl : e_Sn 13 17 (o_getf (e_f1 2 1) 20)) t_13_20
noncomputable def n_13_16 : e_Y := u_ld f_okA f_l0 n_13_17
theorem t_13_16 : e_Sn 13 16 (e_un n_13_16) := u_ldAT f_l0_eq (s_aload (i := .aload_n 0) (len := 1) hq_13 (by decide +kernel) rfl (.inr ⟨0, rfl, rfl, rfl⟩) : e_Sn 13 16 (o_load e_okR 0 17)) t_13_17
noncomputable def n_13_15 : e_Y := u_ld f_okA f_l0 n_13_16
theorem t_13_15 : e_Sn 13 15 (e_un n_13_15) := u_ldAT f_l0_eq (s_aload (i := .aload_n 0) (len := 1) hq_13 (by decide +kernel) rfl (.inr ⟨0, rfl, rfl, rfl⟩) : e_Sn 13 15 (o_load e_okR 0 16)) t_13_16
noncomputable def n_13_12 : e_Y := u_old (o_putf (e_f1 2 15) e_okI 15) n_13_15
theorem t_13_12 : e_Sn 13 12 (e_un n_13_12) := u_oldT (s_putf (ty0 := ey_2) (ok := e_okI) (C := er_2) (T := et_2) (N := 19) (ref := "Plateroomprinter$Engine") (index := 60) (ci := 2) (k := 15) hq_13 ho_13 ⟨rfl, by decide, ei_2, (List.mem_of_getElem? (i := 632) (by decide +kernel)), .inl rfl⟩ eo_2 en_2 e_oksI (.inl rfl) (by decide +kernel) rfl : e_Sn 13 12 (o_putf (e_f1 2 15) e_okI 15)) t_13_15 (e_cg_putf (e_f1 2 15) e_okI)
noncomputable def n_13_11 : e_Y := u_push (.inl 2147483648) n_13_12
theorem t_13_11 : e_Sn 13 11 (e_un n_13_11) := u_pushT (s_iconst (n := (0)) hq_13 (by decide +kernel) rfl ⟨by decide +kernel, by decide +kernel⟩ : e_Sn 13 11 (o_push (.inl 2147483648) 12)) t_13_12
noncomputable def n_13_10 : e_Y := u_ld f_okA f_l0 n_13_11
theorem t_13_10 : e_Sn 13 10 (e_un n_13_10) := u_ldAT f_l0_eq (s_aload (i := .aload_n 0) (len := 1) hq_13 (by decide +kernel) rfl (.inr ⟨0, rfl, rfl, rfl⟩) : e_Sn 13 10 (o_load e_okR 0 11)) t_13_11
noncomputable def n_13_7 : e_Y := u_old (o_putf (e_f1 2 14) e_okI 10) n_13_10
theorem t_13_7 : e_Sn 13 7 (e_un n_13_7) := u_oldT (s_putf (ty0 := ey_2) (ok := e_okI) (C := er_2) (T := et_2) (N := 19) (ref := "Plateroomprinter$Engine") (index := 57) (ci := 2) (k := 14) hq_13 ho_13 ⟨rfl, by decide, ei_2, (List.mem_of_getElem? (i := 631) (by decide +kernel)), .inl rfl⟩ eo_2 en_2 e_oksI (.inl rfl) (by decide +kernel) rfl : e_Sn 13 7 (o_putf (e_f1 2 14) e_okI 10)) t_13_10 (e_cg_putf (e_f1 2 14) e_okI)
noncomputable def n_13_6 : e_Y := u_push (.inl 2147483648) n_13_7
theorem t_13_6 : e_Sn 13 6 (e_un n_13_6) := u_pushT (s_iconst (n := (0)) hq_13 (by decide +kernel) rfl ⟨by decide +kernel, by decide +kernel⟩ : e_Sn 13 6 (o_push (.inl 2147483648) 7)) t_13_7
noncomputable def n_13_5 : e_Y := u_ld f_okA f_l0 n_13_6
theorem t_13_5 : e_Sn 13 5 (e_un n_13_5) := u_ldAT f_l0_eq (s_aload (i := .aload_n 0) (len := 1) hq_13 (by decide +kernel) rfl (.inr ⟨0, rfl, rfl, rfl⟩) : e_Sn 13 5 (o_load e_okR 0 6)) t_13_6
noncomputable def n_13_2 : e_Y := u_old (o_putf (e_f1 2 13) e_okI 5) n_13_5
theorem t_13_2 : e_Sn 13 2 (e_un n_13_2) := u_oldT (s_putf (ty0 := ey_2) (ok := e_okI) (C := er_2) (T := et_2) (N := 19) (ref := "Plateroomprinter$Engine") (index := 53) (ci := 2) (k := 13) hq_13 ho_13 ⟨rfl, by decide, ei_2, (List.mem_of_getElem? (i := 630) (by decide +kernel)), .inl rfl⟩ eo_2 en_2 e_oksI (.inl rfl) (by decide +kernel) rfl : e_Sn 13 2 (o_putf (e_f1 2 13) e_okI 5)) t_13_5 (e_cg_putf (e_f1 2 13) e_okI)
noncomputable def n_13_1 : e_Y := u_push (.inl 2147483648) n_13_2
theorem t_13_1 : e_Sn 13 1 (e_un n_13_1) := u_pushT (s_iconst (n := (0)) hq_13 (by decide +kernel) rfl ⟨by decide +kernel, by decide +kernel⟩ : e_Sn 13 1 (o_push (.inl 2147483648) 2)) t_13_2
noncomputable def n_13_0 : e_Y := u_ld f_okA f_l0 n_13_1
theorem t_13_0 : e_Sn 13 0 (e_un n_13_0) := u_ldAT f_l0_eq (s_aload (i := .aload_n 0) (len := 1) hq_13 (by decide +kernel) rfl (.inr ⟨0, rfl, rfl, rfl⟩) : e_Sn 13 0 (o_load e_okR 0 1)) t_13_1
noncomputable def e_tb_13 : e_X := (e_lf 0 (e_un n_13_0))
theorem e_tk_13 : e_Tb 13 e_tb_13 := (e_lfT t_13_0)
theorem hq_17 : (e_ml[17]?).map (·.2.1) = some prog_3_method_6_code := rfl
theorem ho_17 : (e_ml[17]?).map (·.1.cls) = some "Plateroomprinter$Engine" := rfl
theorem hr_17 : (e_ml[17]?).map (·.2.2.2) = some (some .boolean) := rfl
noncomputable def n_17_77 : e_Y := u_tab (o_ret e_okZ)
theorem t_17_77 : e_Sn 17 77 (e_un n_17_77) := u_tabT (s_zret hq_17 hr_17 (by decide +kernel) : e_Sn 17 77 (o_ret e_okZ))
noncomputable def n_17_59 : e_Y := n_17_77
theorem t_17_59 : e_Sn 17 59 (e_un n_17_59) := u_gotoT (s_goto (off := (18)) hq_17 (by decide +kernel) rfl : e_Sn 17 59 (o_goto 77)) t_17_77
noncomputable def n_17_58 : e_Y := u_push (.inl 2147483648) n_17_59
theorem t_17_58 : e_Sn 17 58 (e_un n_17_58) := u_pushT (s_iconst (n := (0)) hq_17 (by decide +kernel) rfl ⟨by decide +kernel, by decide +kernel⟩ : e_Sn 17 58 (o_push (.inl 2147483648) 59)) t_17_59
noncomputable def n_17_55 : e_Y := n_17_77
theorem t_17_55 : e_Sn 17 55 (e_un n_17_55) := u_gotoT (s_goto (off := (22)) hq_17 (by decide +kernel) rfl : e_Sn 17 55 (o_goto 77)) t_17_77
noncomputable def n_17_54 : e_Y := u_push (.inl 2147483649) n_17_55
theorem t_17_54 : e_Sn 17 54 (e_un n_17_54) := u_pushT (s_iconst (n := (1)) hq_17 (by decide +kernel) rfl ⟨by decide +kernel, by decide +kernel⟩ : e_Sn 17 54 (o_push (.inl 2147483649) 55)) t_17_55
noncomputable def n_17_51 : e_Y := u_jmp y_le (u_old2 (o_cgt 58 54) 58 n_17_58 n_17_54) n_17_58 n_17_54
theorem t_17_51 : e_Sn 17 51 (e_un n_17_51) := u_cgtT rfl (s_cgt (off := (7)) hq_17 (by decide +kernel) rfl rfl : e_Sn 17 51 (o_cgt 58 54)) t_17_58 t_17_54
noncomputable def n_17_50 : e_Y := u_ald 0 (u_old (o_ald e_fcs 51) n_17_51) n_17_51
theorem t_17_50 : e_Sn 17 50 (e_un n_17_50) := u_aldT (s_iald hq_17 (by decide +kernel) rfl : e_Sn 17 50 (o_ald e_fcs 51)) t_17_51
noncomputable def n_17_49 : e_Y := u_ld f_okI f_l1 n_17_50
theorem t_17_49 : e_Sn 17 49 (e_un n_17_49) := u_ldIT f_l1_eq (s_iload (i := .iload_n 1) (len := 1) hq_17 (by decide +kernel) rfl (.inr ⟨1, rfl, rfl, rfl⟩) : e_Sn 17 49 (o_load e_okI 1 50)) t_17_50
noncomputable def n_17_46 : e_Y := u_getf 2 12 (u_old (o_getf (e_f1 2 12) 49) n_17_49) n_17_49
theorem t_17_46 : e_Sn 17 46 (e_un n_17_46) := u_getfT (s_getf (C := er_2) (T := et_2) (N := 19) (ref := "Plateroomprinter$Engine") (index := 42) (ci := 2) (k := 12) hq_17 ho_17 ⟨rfl, by decide, ei_2, (List.mem_of_getElem? (i := 629) (by decide +kernel)), .inl rfl⟩ (by decide +kernel) rfl : e_Sn 17 46 (o_getf (e_f1 2 12) 49)) t_17_49
noncomputable def n_17_45 : e_Y := u_ld f_okA f_l0 n_17_46
theorem t_17_45 : e_Sn 17 45 (e_un n_17_45) := u_ldAT f_l0_eq (s_aload (i := .aload_n 0) (len := 1) hq_17 (by decide +kernel) rfl (.inr ⟨0, rfl, rfl, rfl⟩) : e_Sn 17 45 (o_load e_okR 0 46)) t_17_46
noncomputable def n_17_44 : e_Y := u_ld f_okI f_l2 n_17_45
theorem t_17_44 : e_Sn 17 44 (e_un n_17_44) := u_ldIT f_l2_eq (s_iload (i := .iload_n 2) (len := 1) hq_17 (by decide +kernel) rfl (.inr ⟨2, rfl, rfl, rfl⟩) : e_Sn 17 44 (o_load e_okI 2 45)) t_17_45
noncomputable def n_17_41 : e_Y := u_if y_le0 (u_old2 (o_ifgt 44 62) 44 n_17_44 (u_at 62)) n_17_44 (u_at 62)
theorem t_17_41 : e_Sn 17 41 (e_un n_17_41) := u_ifgtT rfl (s_ifle (off := (21)) hq_17 (by decide +kernel) rfl rfl : e_Sn 17 41 (o_ifgt 44 62)) t_17_44 u_atT
noncomputable def n_17_40 : e_Y := u_ald 0 (u_old (o_ald e_fcs 41) n_17_41) n_17_41
theorem t_17_40 : e_Sn 17 40 (e_un n_17_40) := u_aldT (s_iald hq_17 (by decide +kernel) rfl : e_Sn 17 40 (o_ald e_fcs 41)) t_17_41
noncomputable def n_17_39 : e_Y := u_ld f_okI f_l1 n_17_40
theorem t_17_39 : e_Sn 17 39 (e_un n_17_39) := u_ldIT f_l1_eq (s_iload (i := .iload_n 1) (len := 1) hq_17 (by decide +kernel) rfl (.inr ⟨1, rfl, rfl, rfl⟩) : e_Sn 17 39 (o_load e_okI 1 40)) t_17_40
noncomputable def n_17_36 : e_Y := u_getf 2 11 (u_old (o_getf (e_f1 2 11) 39) n_17_39) n_17_39
theorem t_17_36 : e_Sn 17 36 (e_un n_17_36) := u_getfT (s_getf (C := er_2) (T := et_2) (N := 19) (ref := "Plateroomprinter$Engine") (index := 39) (ci := 2) (k := 11) hq_17 ho_17 ⟨rfl, by decide, ei_2, (List.mem_of_getElem? (i := 628) (by decide +kernel)), .inl rfl⟩ (by decide +kernel) rfl : e_Sn 17 36 (o_getf (e_f1 2 11) 39)) t_17_39
noncomputable def n_17_35 : e_Y := u_ld f_okA f_l0 n_17_36
theorem t_17_35 : e_Sn 17 35 (e_un n_17_35) := u_ldAT f_l0_eq (s_aload (i := .aload_n 0) (len := 1) hq_17 (by decide +kernel) rfl (.inr ⟨0, rfl, rfl, rfl⟩) : e_Sn 17 35 (o_load e_okR 0 36)) t_17_36
noncomputable def n_17_34 : e_Y := u_st f_okI f_s2 n_17_35
theorem t_17_34 : e_Sn 17 34 (e_un n_17_34) := u_stIT (fun _ _ _ => f_s2_eq) (s_istore (i := .istore_n 2) (len := 1) hq_17 (by decide +kernel) rfl (.inr ⟨2, rfl, rfl, rfl⟩) : e_Sn 17 34 (o_store e_okI 2 35)) t_17_35
noncomputable def n_17_33 : e_Y := u_bin a_iadd (u_old (o_iadd 34) n_17_34) n_17_34
theorem t_17_33 : e_Sn 17 33 (e_un n_17_33) := u_iaddT (s_iadd hq_17 (by decide +kernel) rfl : e_Sn 17 33 (o_iadd 34)) t_17_34
noncomputable def n_17_32 : e_Y := u_ald 0 (u_old (o_ald e_fcs 33) n_17_33) n_17_33
theorem t_17_32 : e_Sn 17 32 (e_un n_17_32) := u_aldT (s_iald hq_17 (by decide +kernel) rfl : e_Sn 17 32 (o_ald e_fcs 33)) t_17_33
noncomputable def n_17_31 : e_Y := u_ld f_okI f_l1 n_17_32
theorem t_17_31 : e_Sn 17 31 (e_un n_17_31) := u_ldIT f_l1_eq (s_iload (i := .iload_n 1) (len := 1) hq_17 (by decide +kernel) rfl (.inr ⟨1, rfl, rfl, rfl⟩) : e_Sn 17 31 (o_load e_okI 1 32)) t_17_32
noncomputable def n_17_28 : e_Y := u_getf 2 11 (u_old (o_getf (e_f1 2 11) 31) n_17_31) n_17_31
theorem t_17_28 : e_Sn 17 28 (e_un n_17_28) := u_getfT (s_getf (C := er_2) (T := et_2) (N := 19) (ref := "Plateroomprinter$Engine") (index := 39) (ci := 2) (k := 11) hq_17 ho_17 ⟨rfl, by decide, ei_2, (List.mem_of_getElem? (i := 628) (by decide +kernel)), .inl rfl⟩ (by decide +kernel) rfl : e_Sn 17 28 (o_getf (e_f1 2 11) 31)) t_17_31
noncomputable def n_17_27 : e_Y := u_ld f_okA f_l0 n_17_28
theorem t_17_27 : e_Sn 17 27 (e_un n_17_27) := u_ldAT f_l0_eq (s_aload (i := .aload_n 0) (len := 1) hq_17 (by decide +kernel) rfl (.inr ⟨0, rfl, rfl, rfl⟩) : e_Sn 17 27 (o_load e_okR 0 28)) t_17_28
noncomputable def n_17_26 : e_Y := u_ald 0 (u_old (o_ald e_fcs 27) n_17_27) n_17_27
theorem t_17_26 : e_Sn 17 26 (e_un n_17_26) := u_aldT (s_iald hq_17 (by decide +kernel) rfl : e_Sn 17 26 (o_ald e_fcs 27)) t_17_27
noncomputable def n_17_25 : e_Y := u_ld f_okI f_l1 n_17_26
theorem t_17_25 : e_Sn 17 25 (e_un n_17_25) := u_ldIT f_l1_eq (s_iload (i := .iload_n 1) (len := 1) hq_17 (by decide +kernel) rfl (.inr ⟨1, rfl, rfl, rfl⟩) : e_Sn 17 25 (o_load e_okI 1 26)) t_17_26
noncomputable def n_17_22 : e_Y := u_getf 2 10 (u_old (o_getf (e_f1 2 10) 25) n_17_25) n_17_25
theorem t_17_22 : e_Sn 17 22 (e_un n_17_22) := u_getfT (s_getf (C := er_2) (T := et_2) (N := 19) (ref := "Plateroomprinter$Engine") (index := 36) (ci := 2) (k := 10) hq_17 ho_17 ⟨rfl, by decide, ei_2, (List.mem_of_getElem? (i := 627) (by decide +kernel)), .inl rfl⟩ (by decide +kernel) rfl : e_Sn 17 22 (o_getf (e_f1 2 10) 25)) t_17_25
noncomputable def n_17_21 : e_Y := u_ld f_okA f_l0 n_17_22
theorem t_17_21 : e_Sn 17 21 (e_un n_17_21) := u_ldAT f_l0_eq (s_aload (i := .aload_n 0) (len := 1) hq_17 (by decide +kernel) rfl (.inr ⟨0, rfl, rfl, rfl⟩) : e_Sn 17 21 (o_load e_okR 0 22)) t_17_22
noncomputable def n_17_20 : e_Y := u_tab (o_ret e_okZ)
theorem t_17_20 : e_Sn 17 20 (e_un n_17_20) := u_tabT (s_zret hq_17 hr_17 (by decide +kernel) : e_Sn 17 20 (o_ret e_okZ))
noncomputable def n_17_19 : e_Y := u_push (.inl 2147483648) n_17_20
theorem t_17_19 : e_Sn 17 19 (e_un n_17_19) := u_pushT (s_iconst (n := (0)) hq_17 (by decide +kernel) rfl ⟨by decide +kernel, by decide +kernel⟩ : e_Sn 17 19 (o_push (.inl 2147483648) 20)) t_17_20
noncomputable def n_17_16 : e_Y := u_if y_ne0 (u_old2 (o_ifeq 19 21) 19 n_17_19 n_17_21) n_17_19 n_17_21
theorem t_17_16 : e_Sn 17 16 (e_un n_17_16) := u_ifeqT rfl (s_ifne (off := (5)) hq_17 (by decide +kernel) rfl rfl : e_Sn 17 16 (o_ifeq 19 21)) t_17_19 t_17_21
noncomputable def n_17_15 : e_Y := u_ald 0 (u_old (o_ald e_fcs 16) n_17_16) n_17_16
theorem t_17_15 : e_Sn 17 15 (e_un n_17_15) := u_aldT (s_iald hq_17 (by decide +kernel) rfl : e_Sn 17 15 (o_ald e_fcs 16)) t_17_16
noncomputable def n_17_14 : e_Y := u_ld f_okI f_l1 n_17_15
theorem t_17_14 : e_Sn 17 14 (e_un n_17_14) := u_ldIT f_l1_eq (s_iload (i := .iload_n 1) (len := 1) hq_17 (by decide +kernel) rfl (.inr ⟨1, rfl, rfl, rfl⟩) : e_Sn 17 14 (o_load e_okI 1 15)) t_17_15
noncomputable def n_17_11 : e_Y := u_getf 2 9 (u_old (o_getf (e_f1 2 9) 14) n_17_14) n_17_14
theorem t_17_11 : e_Sn 17 11 (e_un n_17_11) := u_getfT (s_getf (C := er_2) (T := et_2) (N := 19) (ref := "Plateroomprinter$Engine") (index := 33) (ci := 2) (k := 9) hq_17 ho_17 ⟨rfl, by decide, ei_2, (List.mem_of_getElem? (i := 626) (by decide +kernel)), .inl rfl⟩ (by decide +kernel) rfl : e_Sn 17 11 (o_getf (e_f1 2 9) 14)) t_17_14
noncomputable def n_17_10 : e_Y := u_ld f_okA f_l0 n_17_11
theorem t_17_10 : e_Sn 17 10 (e_un n_17_10) := u_ldAT f_l0_eq (s_aload (i := .aload_n 0) (len := 1) hq_17 (by decide +kernel) rfl (.inr ⟨0, rfl, rfl, rfl⟩) : e_Sn 17 10 (o_load e_okR 0 11)) t_17_11
noncomputable def n_17_7 : e_Y := u_jmp y_ge (u_old2 (o_clt 10 19) 10 n_17_10 n_17_19) n_17_10 n_17_19
theorem t_17_7 : e_Sn 17 7 (e_un n_17_7) := u_cltT rfl (s_cge (off := (12)) hq_17 (by decide +kernel) rfl rfl : e_Sn 17 7 (o_clt 10 19)) t_17_10 t_17_19
noncomputable def n_17_5 : e_Y := u_push (.inl 2147483660) n_17_7
theorem t_17_5 : e_Sn 17 5 (e_un n_17_5) := u_pushT (s_bipush (n := (12)) hq_17 (by decide +kernel) rfl ⟨by decide +kernel, by decide +kernel⟩ : e_Sn 17 5 (o_push (.inl 2147483660) 7)) t_17_7
noncomputable def n_17_4 : e_Y := u_ld f_okI f_l1 n_17_5
theorem t_17_4 : e_Sn 17 4 (e_un n_17_4) := u_ldIT f_l1_eq (s_iload (i := .iload_n 1) (len := 1) hq_17 (by decide +kernel) rfl (.inr ⟨1, rfl, rfl, rfl⟩) : e_Sn 17 4 (o_load e_okI 1 5)) t_17_5
noncomputable def n_17_1 : e_Y := u_if y_ge0 (u_old2 (o_iflt 19 4) 19 n_17_19 n_17_4) n_17_19 n_17_4
theorem t_17_1 : e_Sn 17 1 (e_un n_17_1) := u_ifltT rfl (s_iflt (off := (18)) hq_17 (by decide +kernel) rfl rfl : e_Sn 17 1 (o_iflt 19 4)) t_17_19 t_17_4
noncomputable def n_17_0 : e_Y := u_ld f_okI f_l1 n_17_1
theorem t_17_0 : e_Sn 17 0 (e_un n_17_0) := u_ldIT f_l1_eq (s_iload (i := .iload_n 1) (len := 1) hq_17 (by decide +kernel) rfl (.inr ⟨1, rfl, rfl, rfl⟩) : e_Sn 17 0 (o_load e_okI 1 1)) t_17_1
noncomputable def e_tb_17 : e_X := (e_lf 0 (e_un n_17_0))
theorem e_tk_17 : e_Tb 17 e_tb_17 := (e_lfT t_17_0)
theorem hq_21 : (e_ml[21]?).map (·.2.1) = some prog_3_method_5_code := rfl
theorem ho_21 : (e_ml[21]?).map (·.1.cls) = some "Plateroomprinter$Engine" := rfl
theorem hr_21 : (e_ml[21]?).map (·.2.2.2) = some none := rfl
noncomputable def n_21_44 : e_Y := u_tab (o_retv)
theorem t_21_44 : e_Sn 21 44 (e_un n_21_44) := u_tabT (s_vret hq_21 hr_21 (by decide +kernel) : e_Sn 21 44 (o_retv))
noncomputable def n_21_41 : e_Y := u_old (o_putf (e_f1 2 18) e_okI 44) n_21_44
theorem t_21_41 : e_Sn 21 41 (e_un n_21_41) := u_oldT (s_putf (ty0 := ey_2) (ok := e_okI) (C := er_2) (T := et_2) (N := 19) (ref := "Plateroomprinter$Engine") (index := 106) (ci := 2) (k := 18) hq_21 ho_21 ⟨rfl, by decide, ei_2, (List.mem_of_getElem? (i := 637) (by decide +kernel)), .inl rfl⟩ eo_2 en_2 e_oksI (.inl rfl) (by decide +kernel) rfl : e_Sn 21 41 (o_putf (e_f1 2 18) e_okI 44)) t_21_44 (e_cg_putf (e_f1 2 18) e_okI)
noncomputable def n_21_40 : e_Y := u_bin a_isub (u_old (o_isub 41) n_21_41) n_21_41
theorem t_21_40 : e_Sn 21 40 (e_un n_21_40) := u_isubT (s_isub hq_21 (by decide +kernel) rfl : e_Sn 21 40 (o_isub 41)) t_21_41
noncomputable def n_21_39 : e_Y := u_ald 0 (u_old (o_ald e_fcs 40) n_21_40) n_21_40
theorem t_21_39 : e_Sn 21 39 (e_un n_21_39) := u_aldT (s_iald hq_21 (by decide +kernel) rfl : e_Sn 21 39 (o_ald e_fcs 40)) t_21_40
noncomputable def n_21_38 : e_Y := u_ld f_okI f_l1 n_21_39
theorem t_21_38 : e_Sn 21 38 (e_un n_21_38) := u_ldIT f_l1_eq (s_iload (i := .iload_n 1) (len := 1) hq_21 (by decide +kernel) rfl (.inr ⟨1, rfl, rfl, rfl⟩) : e_Sn 21 38 (o_load e_okI 1 39)) t_21_39
noncomputable def n_21_35 : e_Y := u_getf 2 5 (u_old (o_getf (e_f1 2 5) 38) n_21_38) n_21_38
theorem t_21_35 : e_Sn 21 35 (e_un n_21_35) := u_getfT (s_getf (C := er_2) (T := et_2) (N := 19) (ref := "Plateroomprinter$Engine") (index := 21) (ci := 2) (k := 5) hq_21 ho_21 ⟨rfl, by decide, ei_2, (List.mem_of_getElem? (i := 622) (by decide +kernel)), .inl rfl⟩ (by decide +kernel) rfl : e_Sn 21 35 (o_getf (e_f1 2 5) 38)) t_21_38
noncomputable def n_21_34 : e_Y := u_ld f_okA f_l0 n_21_35
theorem t_21_34 : e_Sn 21 34 (e_un n_21_34) := u_ldAT f_l0_eq (s_aload (i := .aload_n 0) (len := 1) hq_21 (by decide +kernel) rfl (.inr ⟨0, rfl, rfl, rfl⟩) : e_Sn 21 34 (o_load e_okR 0 35)) t_21_35
noncomputable def n_21_33 : e_Y := u_ald 0 (u_old (o_ald e_fcs 34) n_21_34) n_21_34
theorem t_21_33 : e_Sn 21 33 (e_un n_21_33) := u_aldT (s_iald hq_21 (by decide +kernel) rfl : e_Sn 21 33 (o_ald e_fcs 34)) t_21_34
noncomputable def n_21_32 : e_Y := u_ld f_okI f_l1 n_21_33
theorem t_21_32 : e_Sn 21 32 (e_un n_21_32) := u_ldIT f_l1_eq (s_iload (i := .iload_n 1) (len := 1) hq_21 (by decide +kernel) rfl (.inr ⟨1, rfl, rfl, rfl⟩) : e_Sn 21 32 (o_load e_okI 1 33)) t_21_33
noncomputable def n_21_29 : e_Y := u_getf 2 8 (u_old (o_getf (e_f1 2 8) 32) n_21_32) n_21_32
theorem t_21_29 : e_Sn 21 29 (e_un n_21_29) := u_getfT (s_getf (C := er_2) (T := et_2) (N := 19) (ref := "Plateroomprinter$Engine") (index := 30) (ci := 2) (k := 8) hq_21 ho_21 ⟨rfl, by decide, ei_2, (List.mem_of_getElem? (i := 625) (by decide +kernel)), .inl rfl⟩ (by decide +kernel) rfl : e_Sn 21 29 (o_getf (e_f1 2 8) 32)) t_21_32
noncomputable def n_21_28 : e_Y := u_ld f_okA f_l0 n_21_29
theorem t_21_28 : e_Sn 21 28 (e_un n_21_28) := u_ldAT f_l0_eq (s_aload (i := .aload_n 0) (len := 1) hq_21 (by decide +kernel) rfl (.inr ⟨0, rfl, rfl, rfl⟩) : e_Sn 21 28 (o_load e_okR 0 29)) t_21_29
noncomputable def n_21_27 : e_Y := u_ld f_okA f_l0 n_21_28
theorem t_21_27 : e_Sn 21 27 (e_un n_21_27) := u_ldAT f_l0_eq (s_aload (i := .aload_n 0) (len := 1) hq_21 (by decide +kernel) rfl (.inr ⟨0, rfl, rfl, rfl⟩) : e_Sn 21 27 (o_load e_okR 0 28)) t_21_28
noncomputable def n_21_24 : e_Y := u_old (o_putf (e_f1 2 17) e_okI 27) n_21_27
theorem t_21_24 : e_Sn 21 24 (e_un n_21_24) := u_oldT (s_putf (ty0 := ey_2) (ok := e_okI) (C := er_2) (T := et_2) (N := 19) (ref := "Plateroomprinter$Engine") (index := 103) (ci := 2) (k := 17) hq_21 ho_21 ⟨rfl, by decide, ei_2, (List.mem_of_getElem? (i := 635) (by decide +kernel)), .inl rfl⟩ eo_2 en_2 e_oksI (.inl rfl) (by decide +kernel) rfl : e_Sn 21 24 (o_putf (e_f1 2 17) e_okI 27)) t_21_27 (e_cg_putf (e_f1 2 17) e_okI)
noncomputable def n_21_23 : e_Y := u_bin a_isub (u_old (o_isub 24) n_21_24) n_21_24
theorem t_21_23 : e_Sn 21 23 (e_un n_21_23) := u_isubT (s_isub hq_21 (by decide +kernel) rfl : e_Sn 21 23 (o_isub 24)) t_21_24
noncomputable def n_21_22 : e_Y := u_ald 0 (u_old (o_ald e_fcs 23) n_21_23) n_21_23
theorem t_21_22 : e_Sn 21 22 (e_un n_21_22) := u_aldT (s_iald hq_21 (by decide +kernel) rfl : e_Sn 21 22 (o_ald e_fcs 23)) t_21_23
noncomputable def n_21_21 : e_Y := u_push (.inl 2147483648) n_21_22
theorem t_21_21 : e_Sn 21 21 (e_un n_21_21) := u_pushT (s_iconst (n := (0)) hq_21 (by decide +kernel) rfl ⟨by decide +kernel, by decide +kernel⟩ : e_Sn 21 21 (o_push (.inl 2147483648) 22)) t_21_22
noncomputable def n_21_18 : e_Y := u_getf 2 5 (u_old (o_getf (e_f1 2 5) 21) n_21_21) n_21_21
theorem t_21_18 : e_Sn 21 18 (e_un n_21_18) := u_getfT (s_getf (C := er_2) (T := et_2) (N := 19) (ref := "Plateroomprinter$Engine") (index := 21) (ci := 2) (k := 5) hq_21 ho_21 ⟨rfl, by decide, ei_2, (List.mem_of_getElem? (i := 622) (by decide +kernel)), .inl rfl⟩ (by decide +kernel) rfl : e_Sn 21 18 (o_getf (e_f1 2 5) 21)) t_21_21
noncomputable def n_21_17 : e_Y := u_ld f_okA f_l0 n_21_18
theorem t_21_17 : e_Sn 21 17 (e_un n_21_17) := u_ldAT f_l0_eq (s_aload (i := .aload_n 0) (len := 1) hq_21 (by decide +kernel) rfl (.inr ⟨0, rfl, rfl, rfl⟩) : e_Sn 21 17 (o_load e_okR 0 18)) t_21_18
noncomputable def n_21_16 : e_Y := u_ald 0 (u_old (o_ald e_fcs 17) n_21_17) n_21_17
theorem t_21_16 : e_Sn 21 16 (e_un n_21_16) := u_aldT (s_iald hq_21 (by decide +kernel) rfl : e_Sn 21 16 (o_ald e_fcs 17)) t_21_17
noncomputable def n_21_15 : e_Y := u_push (.inl 2147483648) n_21_16
theorem t_21_15 : e_Sn 21 15 (e_un n_21_15) := u_pushT (s_iconst (n := (0)) hq_21 (by decide +kernel) rfl ⟨by decide +kernel, by decide +kernel⟩ : e_Sn 21 15 (o_push (.inl 2147483648) 16)) t_21_16
noncomputable def n_21_12 : e_Y := u_getf 2 8 (u_old (o_getf (e_f1 2 8) 15) n_21_15) n_21_15
theorem t_21_12 : e_Sn 21 12 (e_un n_21_12) := u_getfT (s_getf (C := er_2) (T := et_2) (N := 19) (ref := "Plateroomprinter$Engine") (index := 30) (ci := 2) (k := 8) hq_21 ho_21 ⟨rfl, by decide, ei_2, (List.mem_of_getElem? (i := 625) (by decide +kernel)), .inl rfl⟩ (by decide +kernel) rfl : e_Sn 21 12 (o_getf (e_f1 2 8) 15)) t_21_15
noncomputable def n_21_11 : e_Y := u_ld f_okA f_l0 n_21_12
theorem t_21_11 : e_Sn 21 11 (e_un n_21_11) := u_ldAT f_l0_eq (s_aload (i := .aload_n 0) (len := 1) hq_21 (by decide +kernel) rfl (.inr ⟨0, rfl, rfl, rfl⟩) : e_Sn 21 11 (o_load e_okR 0 12)) t_21_12
noncomputable def n_21_10 : e_Y := u_ld f_okA f_l0 n_21_11
theorem t_21_10 : e_Sn 21 10 (e_un n_21_10) := u_ldAT f_l0_eq (s_aload (i := .aload_n 0) (len := 1) hq_21 (by decide +kernel) rfl (.inr ⟨0, rfl, rfl, rfl⟩) : e_Sn 21 10 (o_load e_okR 0 11)) t_21_11
noncomputable def n_21_7 : e_Y := u_jmp y_ge (u_old2 (o_clt 10 44) 10 n_21_10 n_21_44) n_21_10 n_21_44
theorem t_21_7 : e_Sn 21 7 (e_un n_21_7) := u_cltT rfl (s_cge (off := (37)) hq_21 (by decide +kernel) rfl rfl : e_Sn 21 7 (o_clt 10 44)) t_21_10 t_21_44
noncomputable def n_21_5 : e_Y := u_push (.inl 2147483660) n_21_7
theorem t_21_5 : e_Sn 21 5 (e_un n_21_5) := u_pushT (s_bipush (n := (12)) hq_21 (by decide +kernel) rfl ⟨by decide +kernel, by decide +kernel⟩ : e_Sn 21 5 (o_push (.inl 2147483660) 7)) t_21_7
noncomputable def n_21_4 : e_Y := u_ld f_okI f_l1 n_21_5
theorem t_21_4 : e_Sn 21 4 (e_un n_21_4) := u_ldIT f_l1_eq (s_iload (i := .iload_n 1) (len := 1) hq_21 (by decide +kernel) rfl (.inr ⟨1, rfl, rfl, rfl⟩) : e_Sn 21 4 (o_load e_okI 1 5)) t_21_5
noncomputable def n_21_1 : e_Y := u_if y_ge0 (u_old2 (o_iflt 44 4) 44 n_21_44 n_21_4) n_21_44 n_21_4
theorem t_21_1 : e_Sn 21 1 (e_un n_21_1) := u_ifltT rfl (s_iflt (off := (43)) hq_21 (by decide +kernel) rfl rfl : e_Sn 21 1 (o_iflt 44 4)) t_21_44 t_21_4
noncomputable def n_21_0 : e_Y := u_ld f_okI f_l1 n_21_1
theorem t_21_0 : e_Sn 21 0 (e_un n_21_0) := u_ldIT f_l1_eq (s_iload (i := .iload_n 1) (len := 1) hq_21 (by decide +kernel) rfl (.inr ⟨1, rfl, rfl, rfl⟩) : e_Sn 21 0 (o_load e_okI 1 1)) t_21_1
noncomputable def e_tb_21 : e_X := (e_lf 0 (e_un n_21_0))
theorem e_tk_21 : e_Tb 21 e_tb_21 := (e_lfT t_21_0)
theorem hq_20 : (e_ml[20]?).map (·.2.1) = some prog_3_method_4_code := rfl
theorem ho_20 : (e_ml[20]?).map (·.1.cls) = some "Plateroomprinter$Engine" := rfl
theorem hr_20 : (e_ml[20]?).map (·.2.2.2) = some (some .int) := rfl
noncomputable def n_20_158 : e_Y := u_retI
theorem t_20_158 : e_Sn 20 158 (e_un n_20_158) := u_retIT (s_iret hq_20 hr_20 (by decide +kernel) : e_Sn 20 158 (o_ret e_okI))
noncomputable def n_20_157 : e_Y := u_push (.inl 2147483647) n_20_158
theorem t_20_157 : e_Sn 20 157 (e_un n_20_157) := u_pushT (s_iconst (n := (-1)) hq_20 (by decide +kernel) rfl ⟨by decide +kernel, by decide +kernel⟩ : e_Sn 20 157 (o_push (.inl 2147483647) 158)) t_20_158
noncomputable def n_20_154 : e_Y := (u_at 2)
theorem t_20_154 : e_Sn 20 154 (e_un n_20_154) := u_gotoT (s_goto (off := (-152)) hq_20 (by decide +kernel) rfl : e_Sn 20 154 (o_goto 2)) u_atT
noncomputable def n_20_151 : e_Y := u_inc f_l1 f_s1 1 n_20_154
theorem t_20_151 : e_Sn 20 151 (e_un n_20_151) := u_incT f_l1_eq (fun _ _ _ => f_s1_eq) (s_iinc (zz := (1)) hq_20 (by decide +kernel) rfl (by decide +kernel) ⟨by decide, by decide⟩ : e_Sn 20 151 (o_iinc 1 1 154)) t_20_154
noncomputable def n_20_146 : e_Y := u_if y_ne0 (u_old2 (o_ifeq 151 149) 151 n_20_151 (u_at 149)) n_20_151 (u_at 149)
theorem t_20_146 : e_Sn 20 146 (e_un n_20_146) := u_ifeqT rfl (s_ifeq (off := (5)) hq_20 (by decide +kernel) rfl rfl : e_Sn 20 146 (o_ifeq 151 149)) t_20_151 u_atT
noncomputable def n_20_145 : e_Y := u_ld f_okI f_l3 n_20_146
theorem t_20_145 : e_Sn 20 145 (e_un n_20_145) := u_ldIT f_l3_eq (s_iload (i := .iload_n 3) (len := 1) hq_20 (by decide +kernel) rfl (.inr ⟨3, rfl, rfl, rfl⟩) : e_Sn 20 145 (o_load e_okI 3 146)) t_20_146
noncomputable def n_20_144 : e_Y := u_st f_okI f_s3 n_20_145
theorem t_20_144 : e_Sn 20 144 (e_un n_20_144) := u_stIT (fun _ _ _ => f_s3_eq) (s_istore (i := .istore_n 3) (len := 1) hq_20 (by decide +kernel) rfl (.inr ⟨3, rfl, rfl, rfl⟩) : e_Sn 20 144 (o_store e_okI 3 145)) t_20_145
noncomputable def n_20_143 : e_Y := u_push (.inl 2147483648) n_20_144
theorem t_20_143 : e_Sn 20 143 (e_un n_20_143) := u_pushT (s_iconst (n := (0)) hq_20 (by decide +kernel) rfl ⟨by decide +kernel, by decide +kernel⟩ : e_Sn 20 143 (o_push (.inl 2147483648) 144)) t_20_144
noncomputable def n_20_120 : e_Y := u_jmp y_ne (u_old2 (o_ceq 123 143) 123 (u_at 123) n_20_143) (u_at 123) n_20_143
theorem t_20_120 : e_Sn 20 120 (e_un n_20_120) := u_ceqT rfl (s_cne (off := (23)) hq_20 (by decide +kernel) rfl rfl : e_Sn 20 120 (o_ceq 123 143)) u_atT t_20_143
noncomputable def n_20_119 : e_Y := u_push (.inl 2147483650) n_20_120
theorem t_20_119 : e_Sn 20 119 (e_un n_20_119) := u_pushT (s_iconst (n := (2)) hq_20 (by decide +kernel) rfl ⟨by decide +kernel, by decide +kernel⟩ : e_Sn 20 119 (o_push (.inl 2147483650) 120)) t_20_120
noncomputable def n_20_118 : e_Y := u_ald 0 (u_old (o_ald e_fcs 119) n_20_119) n_20_119
theorem t_20_118 : e_Sn 20 118 (e_un n_20_118) := u_aldT (s_iald hq_20 (by decide +kernel) rfl : e_Sn 20 118 (o_ald e_fcs 119)) t_20_119
noncomputable def n_20_117 : e_Y := u_ld f_okI f_l2 n_20_118
theorem t_20_117 : e_Sn 20 117 (e_un n_20_117) := u_ldIT f_l2_eq (s_iload (i := .iload_n 2) (len := 1) hq_20 (by decide +kernel) rfl (.inr ⟨2, rfl, rfl, rfl⟩) : e_Sn 20 117 (o_load e_okI 2 118)) t_20_118
noncomputable def n_20_114 : e_Y := u_getf 2 9 (u_old (o_getf (e_f1 2 9) 117) n_20_117) n_20_117
theorem t_20_114 : e_Sn 20 114 (e_un n_20_114) := u_getfT (s_getf (C := er_2) (T := et_2) (N := 19) (ref := "Plateroomprinter$Engine") (index := 33) (ci := 2) (k := 9) hq_20 ho_20 ⟨rfl, by decide, ei_2, (List.mem_of_getElem? (i := 626) (by decide +kernel)), .inl rfl⟩ (by decide +kernel) rfl : e_Sn 20 114 (o_getf (e_f1 2 9) 117)) t_20_117
noncomputable def n_20_113 : e_Y := u_ld f_okA f_l0 n_20_114
theorem t_20_113 : e_Sn 20 113 (e_un n_20_113) := u_ldAT f_l0_eq (s_aload (i := .aload_n 0) (len := 1) hq_20 (by decide +kernel) rfl (.inr ⟨0, rfl, rfl, rfl⟩) : e_Sn 20 113 (o_load e_okR 0 114)) t_20_114
noncomputable def n_20_110 : e_Y := u_old (o_putf (e_f1 2 14) e_okI 113) n_20_113
theorem t_20_110 : e_Sn 20 110 (e_un n_20_110) := u_oldT (s_putf (ty0 := ey_2) (ok := e_okI) (C := er_2) (T := et_2) (N := 19) (ref := "Plateroomprinter$Engine") (index := 57) (ci := 2) (k := 14) hq_20 ho_20 ⟨rfl, by decide, ei_2, (List.mem_of_getElem? (i := 631) (by decide +kernel)), .inl rfl⟩ eo_2 en_2 e_oksI (.inl rfl) (by decide +kernel) rfl : e_Sn 20 110 (o_putf (e_f1 2 14) e_okI 113)) t_20_113 (e_cg_putf (e_f1 2 14) e_okI)
noncomputable def n_20_109 : e_Y := u_bin a_iadd (u_old (o_iadd 110) n_20_110) n_20_110
theorem t_20_109 : e_Sn 20 109 (e_un n_20_109) := u_iaddT (s_iadd hq_20 (by decide +kernel) rfl : e_Sn 20 109 (o_iadd 110)) t_20_110
noncomputable def n_20_108 : e_Y := u_push (.inl 2147483649) n_20_109
theorem t_20_108 : e_Sn 20 108 (e_un n_20_108) := u_pushT (s_iconst (n := (1)) hq_20 (by decide +kernel) rfl ⟨by decide +kernel, by decide +kernel⟩ : e_Sn 20 108 (o_push (.inl 2147483649) 109)) t_20_109
noncomputable def n_20_105 : e_Y := u_getf 2 14 (u_old (o_getf (e_f1 2 14) 108) n_20_108) n_20_108
theorem t_20_105 : e_Sn 20 105 (e_un n_20_105) := u_getfT (s_getf (C := er_2) (T := et_2) (N := 19) (ref := "Plateroomprinter$Engine") (index := 57) (ci := 2) (k := 14) hq_20 ho_20 ⟨rfl, by decide, ei_2, (List.mem_of_getElem? (i := 631) (by decide +kernel)), .inl rfl⟩ (by decide +kernel) rfl : e_Sn 20 105 (o_getf (e_f1 2 14) 108)) t_20_108
noncomputable def n_20_104 : e_Y := u_old (o_dup 105) n_20_105
theorem t_20_104 : e_Sn 20 104 (e_un n_20_104) := u_oldT (s_dup hq_20 (by decide +kernel) rfl : e_Sn 20 104 (o_dup 105)) t_20_105 e_cg_dup
noncomputable def n_20_103 : e_Y := u_ld f_okA f_l0 n_20_104
theorem t_20_103 : e_Sn 20 103 (e_un n_20_103) := u_ldAT f_l0_eq (s_aload (i := .aload_n 0) (len := 1) hq_20 (by decide +kernel) rfl (.inr ⟨0, rfl, rfl, rfl⟩) : e_Sn 20 103 (o_load e_okR 0 104)) t_20_104
noncomputable def n_20_102 : e_Y := u_old (o_ast 0 e_okI 103) n_20_103
theorem t_20_102 : e_Sn 20 102 (e_un n_20_102) := u_oldT (s_iast hq_20 (by decide +kernel) rfl : e_Sn 20 102 (o_ast 0 e_okI 103)) t_20_103 (e_cg_ast 0 e_okI)
noncomputable def n_20_101 : e_Y := u_ald 0 (u_old (o_ald e_fcs 102) n_20_102) n_20_102
theorem t_20_101 : e_Sn 20 101 (e_un n_20_101) := u_aldT (s_iald hq_20 (by decide +kernel) rfl : e_Sn 20 101 (o_ald e_fcs 102)) t_20_102
noncomputable def n_20_100 : e_Y := u_ld f_okI f_l2 n_20_101
theorem t_20_100 : e_Sn 20 100 (e_un n_20_100) := u_ldIT f_l2_eq (s_iload (i := .iload_n 2) (len := 1) hq_20 (by decide +kernel) rfl (.inr ⟨2, rfl, rfl, rfl⟩) : e_Sn 20 100 (o_load e_okI 2 101)) t_20_101
noncomputable def n_20_97 : e_Y := u_getf 2 5 (u_old (o_getf (e_f1 2 5) 100) n_20_100) n_20_100
theorem t_20_97 : e_Sn 20 97 (e_un n_20_97) := u_getfT (s_getf (C := er_2) (T := et_2) (N := 19) (ref := "Plateroomprinter$Engine") (index := 21) (ci := 2) (k := 5) hq_20 ho_20 ⟨rfl, by decide, ei_2, (List.mem_of_getElem? (i := 622) (by decide +kernel)), .inl rfl⟩ (by decide +kernel) rfl : e_Sn 20 97 (o_getf (e_f1 2 5) 100)) t_20_100
noncomputable def n_20_96 : e_Y := u_ld f_okA f_l0 n_20_97
theorem t_20_96 : e_Sn 20 96 (e_un n_20_96) := u_ldAT f_l0_eq (s_aload (i := .aload_n 0) (len := 1) hq_20 (by decide +kernel) rfl (.inr ⟨0, rfl, rfl, rfl⟩) : e_Sn 20 96 (o_load e_okR 0 97)) t_20_97
noncomputable def n_20_95 : e_Y := u_ld f_okI f_l2 n_20_96
theorem t_20_95 : e_Sn 20 95 (e_un n_20_95) := u_ldIT f_l2_eq (s_iload (i := .iload_n 2) (len := 1) hq_20 (by decide +kernel) rfl (.inr ⟨2, rfl, rfl, rfl⟩) : e_Sn 20 95 (o_load e_okI 2 96)) t_20_96
noncomputable def n_20_92 : e_Y := u_getf 2 7 (u_old (o_getf (e_f1 2 7) 95) n_20_95) n_20_95
theorem t_20_92 : e_Sn 20 92 (e_un n_20_92) := u_getfT (s_getf (C := er_2) (T := et_2) (N := 19) (ref := "Plateroomprinter$Engine") (index := 27) (ci := 2) (k := 7) hq_20 ho_20 ⟨rfl, by decide, ei_2, (List.mem_of_getElem? (i := 624) (by decide +kernel)), .inl rfl⟩ (by decide +kernel) rfl : e_Sn 20 92 (o_getf (e_f1 2 7) 95)) t_20_95
noncomputable def n_20_91 : e_Y := u_ld f_okA f_l0 n_20_92
theorem t_20_91 : e_Sn 20 91 (e_un n_20_91) := u_ldAT f_l0_eq (s_aload (i := .aload_n 0) (len := 1) hq_20 (by decide +kernel) rfl (.inr ⟨0, rfl, rfl, rfl⟩) : e_Sn 20 91 (o_load e_okR 0 92)) t_20_92
noncomputable def n_20_90 : e_Y := u_old (o_ast 0 e_okI 91) n_20_91
theorem t_20_90 : e_Sn 20 90 (e_un n_20_90) := u_oldT (s_iast hq_20 (by decide +kernel) rfl : e_Sn 20 90 (o_ast 0 e_okI 91)) t_20_91 (e_cg_ast 0 e_okI)
noncomputable def n_20_89 : e_Y := u_bin a_iadd (u_old (o_iadd 90) n_20_90) n_20_90
theorem t_20_89 : e_Sn 20 89 (e_un n_20_89) := u_iaddT (s_iadd hq_20 (by decide +kernel) rfl : e_Sn 20 89 (o_iadd 90)) t_20_90
noncomputable def n_20_88 : e_Y := u_ald 0 (u_old (o_ald e_fcs 89) n_20_89) n_20_89
theorem t_20_88 : e_Sn 20 88 (e_un n_20_88) := u_aldT (s_iald hq_20 (by decide +kernel) rfl : e_Sn 20 88 (o_ald e_fcs 89)) t_20_89
noncomputable def n_20_87 : e_Y := u_ld f_okI f_l2 n_20_88
theorem t_20_87 : e_Sn 20 87 (e_un n_20_87) := u_ldIT f_l2_eq (s_iload (i := .iload_n 2) (len := 1) hq_20 (by decide +kernel) rfl (.inr ⟨2, rfl, rfl, rfl⟩) : e_Sn 20 87 (o_load e_okI 2 88)) t_20_88
noncomputable def n_20_84 : e_Y := u_getf 2 11 (u_old (o_getf (e_f1 2 11) 87) n_20_87) n_20_87
theorem t_20_84 : e_Sn 20 84 (e_un n_20_84) := u_getfT (s_getf (C := er_2) (T := et_2) (N := 19) (ref := "Plateroomprinter$Engine") (index := 39) (ci := 2) (k := 11) hq_20 ho_20 ⟨rfl, by decide, ei_2, (List.mem_of_getElem? (i := 628) (by decide +kernel)), .inl rfl⟩ (by decide +kernel) rfl : e_Sn 20 84 (o_getf (e_f1 2 11) 87)) t_20_87
noncomputable def n_20_83 : e_Y := u_ld f_okA f_l0 n_20_84
theorem t_20_83 : e_Sn 20 83 (e_un n_20_83) := u_ldAT f_l0_eq (s_aload (i := .aload_n 0) (len := 1) hq_20 (by decide +kernel) rfl (.inr ⟨0, rfl, rfl, rfl⟩) : e_Sn 20 83 (o_load e_okR 0 84)) t_20_84
noncomputable def n_20_82 : e_Y := u_ald 0 (u_old (o_ald e_fcs 83) n_20_83) n_20_83
theorem t_20_82 : e_Sn 20 82 (e_un n_20_82) := u_aldT (s_iald hq_20 (by decide +kernel) rfl : e_Sn 20 82 (o_ald e_fcs 83)) t_20_83
noncomputable def n_20_81 : e_Y := u_old (o_dup2 82) n_20_82
theorem t_20_81 : e_Sn 20 81 (e_un n_20_81) := u_oldT (s_dup2 hq_20 (by decide +kernel) rfl : e_Sn 20 81 (o_dup2 82)) t_20_82 e_cg_dup2
noncomputable def n_20_80 : e_Y := u_ld f_okI f_l2 n_20_81
theorem t_20_80 : e_Sn 20 80 (e_un n_20_80) := u_ldIT f_l2_eq (s_iload (i := .iload_n 2) (len := 1) hq_20 (by decide +kernel) rfl (.inr ⟨2, rfl, rfl, rfl⟩) : e_Sn 20 80 (o_load e_okI 2 81)) t_20_81
noncomputable def n_20_77 : e_Y := u_getf 2 10 (u_old (o_getf (e_f1 2 10) 80) n_20_80) n_20_80
theorem t_20_77 : e_Sn 20 77 (e_un n_20_77) := u_getfT (s_getf (C := er_2) (T := et_2) (N := 19) (ref := "Plateroomprinter$Engine") (index := 36) (ci := 2) (k := 10) hq_20 ho_20 ⟨rfl, by decide, ei_2, (List.mem_of_getElem? (i := 627) (by decide +kernel)), .inl rfl⟩ (by decide +kernel) rfl : e_Sn 20 77 (o_getf (e_f1 2 10) 80)) t_20_80
noncomputable def n_20_76 : e_Y := u_ld f_okA f_l0 n_20_77
theorem t_20_76 : e_Sn 20 76 (e_un n_20_76) := u_ldAT f_l0_eq (s_aload (i := .aload_n 0) (len := 1) hq_20 (by decide +kernel) rfl (.inr ⟨0, rfl, rfl, rfl⟩) : e_Sn 20 76 (o_load e_okR 0 77)) t_20_77
noncomputable def n_20_73 : e_Y := u_callV 2 21 2 21 2 n_21_0 n_20_76
theorem t_20_73 : e_Sn 20 73 (e_un n_20_73) := u_callVT rfl (s_callV (ci := 2) (C := er_2) (T := et_2) (N := 19) (index := 89) hq_20 ho_20 hy_21 hp_21 hc_21 hi_21 hd_21 (List.mem_of_getElem? (i := 797) (by decide +kernel)) hs_21 (List.mem_of_getElem? (i := 2) (by decide +kernel)) rfl (by decide +kernel) rfl : e_Sn 20 73 (o_callV (e_s1 2 21 2) 2 76)) t_21_0 t_20_76
noncomputable def n_20_72 : e_Y := u_bin a_isub (u_old (o_isub 73) n_20_73) n_20_73
theorem t_20_72 : e_Sn 20 72 (e_un n_20_72) := u_isubT (s_isub hq_20 (by decide +kernel) rfl : e_Sn 20 72 (o_isub 73)) t_20_73
noncomputable def n_20_71 : e_Y := u_push (.inl 2147483649) n_20_72
theorem t_20_71 : e_Sn 20 71 (e_un n_20_71) := u_pushT (s_iconst (n := (1)) hq_20 (by decide +kernel) rfl ⟨by decide +kernel, by decide +kernel⟩ : e_Sn 20 71 (o_push (.inl 2147483649) 72)) t_20_72
noncomputable def n_20_70 : e_Y := u_ld f_okI f_l2 n_20_71
theorem t_20_70 : e_Sn 20 70 (e_un n_20_70) := u_ldIT f_l2_eq (s_iload (i := .iload_n 2) (len := 1) hq_20 (by decide +kernel) rfl (.inr ⟨2, rfl, rfl, rfl⟩) : e_Sn 20 70 (o_load e_okI 2 71)) t_20_71
noncomputable def n_20_69 : e_Y := u_ld f_okA f_l0 n_20_70
theorem t_20_69 : e_Sn 20 69 (e_un n_20_69) := u_ldAT f_l0_eq (s_aload (i := .aload_n 0) (len := 1) hq_20 (by decide +kernel) rfl (.inr ⟨0, rfl, rfl, rfl⟩) : e_Sn 20 69 (o_load e_okR 0 70)) t_20_70
noncomputable def n_20_66 : e_Y := n_20_151
theorem t_20_66 : e_Sn 20 66 (e_un n_20_66) := u_gotoT (s_goto (off := (85)) hq_20 (by decide +kernel) rfl : e_Sn 20 66 (o_goto 151)) t_20_151
noncomputable def n_20_63 : e_Y := u_old (o_putf (e_f1 2 13) e_okI 66) n_20_66
theorem t_20_63 : e_Sn 20 63 (e_un n_20_63) := u_oldT (s_putf (ty0 := ey_2) (ok := e_okI) (C := er_2) (T := et_2) (N := 19) (ref := "Plateroomprinter$Engine") (index := 53) (ci := 2) (k := 13) hq_20 ho_20 ⟨rfl, by decide, ei_2, (List.mem_of_getElem? (i := 630) (by decide +kernel)), .inl rfl⟩ eo_2 en_2 e_oksI (.inl rfl) (by decide +kernel) rfl : e_Sn 20 63 (o_putf (e_f1 2 13) e_okI 66)) t_20_66 (e_cg_putf (e_f1 2 13) e_okI)
noncomputable def n_20_62 : e_Y := u_bin a_isub (u_old (o_isub 63) n_20_63) n_20_63
theorem t_20_62 : e_Sn 20 62 (e_un n_20_62) := u_isubT (s_isub hq_20 (by decide +kernel) rfl : e_Sn 20 62 (o_isub 63)) t_20_63
noncomputable def n_20_61 : e_Y := u_push (.inl 2147483649) n_20_62
theorem t_20_61 : e_Sn 20 61 (e_un n_20_61) := u_pushT (s_iconst (n := (1)) hq_20 (by decide +kernel) rfl ⟨by decide +kernel, by decide +kernel⟩ : e_Sn 20 61 (o_push (.inl 2147483649) 62)) t_20_62
noncomputable def n_20_58 : e_Y := u_getf 2 13 (u_old (o_getf (e_f1 2 13) 61) n_20_61) n_20_61
theorem t_20_58 : e_Sn 20 58 (e_un n_20_58) := u_getfT (s_getf (C := er_2) (T := et_2) (N := 19) (ref := "Plateroomprinter$Engine") (index := 53) (ci := 2) (k := 13) hq_20 ho_20 ⟨rfl, by decide, ei_2, (List.mem_of_getElem? (i := 630) (by decide +kernel)), .inl rfl⟩ (by decide +kernel) rfl : e_Sn 20 58 (o_getf (e_f1 2 13) 61)) t_20_61
noncomputable def n_20_57 : e_Y := u_old (o_dup 58) n_20_58
theorem t_20_57 : e_Sn 20 57 (e_un n_20_57) := u_oldT (s_dup hq_20 (by decide +kernel) rfl : e_Sn 20 57 (o_dup 58)) t_20_58 e_cg_dup
noncomputable def n_20_56 : e_Y := u_ld f_okA f_l0 n_20_57
theorem t_20_56 : e_Sn 20 56 (e_un n_20_56) := u_ldAT f_l0_eq (s_aload (i := .aload_n 0) (len := 1) hq_20 (by decide +kernel) rfl (.inr ⟨0, rfl, rfl, rfl⟩) : e_Sn 20 56 (o_load e_okR 0 57)) t_20_57
noncomputable def n_20_53 : e_Y := u_if y_ne0 (u_old2 (o_ifeq 56 69) 56 n_20_56 n_20_69) n_20_56 n_20_69
theorem t_20_53 : e_Sn 20 53 (e_un n_20_53) := u_ifeqT rfl (s_ifne (off := (16)) hq_20 (by decide +kernel) rfl rfl : e_Sn 20 53 (o_ifeq 56 69)) t_20_56 t_20_69
noncomputable def n_20_50 : e_Y := u_callV 2 17 3 22 2 n_17_0 n_20_53
theorem t_20_50 : e_Sn 20 50 (e_un n_20_50) := u_callVT rfl (s_callV (ci := 2) (C := er_2) (T := et_2) (N := 19) (index := 85) hq_20 ho_20 hy_17 hp_17 hc_17 hi_17 hd_17 (List.mem_of_getElem? (i := 793) (by decide +kernel)) hs_17 (List.mem_of_getElem? (i := 1) (by decide +kernel)) rfl (by decide +kernel) rfl : e_Sn 20 50 (o_callV (e_s1 2 17 3) 2 53)) t_17_0 t_20_53
noncomputable def n_20_49 : e_Y := u_ld f_okI f_l2 n_20_50
theorem t_20_49 : e_Sn 20 49 (e_un n_20_49) := u_ldIT f_l2_eq (s_iload (i := .iload_n 2) (len := 1) hq_20 (by decide +kernel) rfl (.inr ⟨2, rfl, rfl, rfl⟩) : e_Sn 20 49 (o_load e_okI 2 50)) t_20_50
noncomputable def n_20_48 : e_Y := u_ld f_okA f_l0 n_20_49
theorem t_20_48 : e_Sn 20 48 (e_un n_20_48) := u_ldAT f_l0_eq (s_aload (i := .aload_n 0) (len := 1) hq_20 (by decide +kernel) rfl (.inr ⟨0, rfl, rfl, rfl⟩) : e_Sn 20 48 (o_load e_okR 0 49)) t_20_49
noncomputable def n_20_47 : e_Y := u_retI
theorem t_20_47 : e_Sn 20 47 (e_un n_20_47) := u_retIT (s_iret hq_20 hr_20 (by decide +kernel) : e_Sn 20 47 (o_ret e_okI))
noncomputable def n_20_46 : e_Y := u_push (.inl 2147483648) n_20_47
theorem t_20_46 : e_Sn 20 46 (e_un n_20_46) := u_pushT (s_iconst (n := (0)) hq_20 (by decide +kernel) rfl ⟨by decide +kernel, by decide +kernel⟩ : e_Sn 20 46 (o_push (.inl 2147483648) 47)) t_20_47
noncomputable def n_20_43 : e_Y := u_jmp y_ge (u_old2 (o_clt 46 48) 46 n_20_46 n_20_48) n_20_46 n_20_48
theorem t_20_43 : e_Sn 20 43 (e_un n_20_43) := u_cltT rfl (s_cge (off := (5)) hq_20 (by decide +kernel) rfl rfl : e_Sn 20 43 (o_clt 46 48)) t_20_46 t_20_48
noncomputable def n_20_42 : e_Y := u_ald 0 (u_old (o_ald e_fcs 43) n_20_43) n_20_43
theorem t_20_42 : e_Sn 20 42 (e_un n_20_42) := u_aldT (s_iald hq_20 (by decide +kernel) rfl : e_Sn 20 42 (o_ald e_fcs 43)) t_20_43
noncomputable def n_20_41 : e_Y := u_ld f_okI f_l2 n_20_42
theorem t_20_41 : e_Sn 20 41 (e_un n_20_41) := u_ldIT f_l2_eq (s_iload (i := .iload_n 2) (len := 1) hq_20 (by decide +kernel) rfl (.inr ⟨2, rfl, rfl, rfl⟩) : e_Sn 20 41 (o_load e_okI 2 42)) t_20_42
noncomputable def n_20_38 : e_Y := u_getf 2 6 (u_old (o_getf (e_f1 2 6) 41) n_20_41) n_20_41
theorem t_20_38 : e_Sn 20 38 (e_un n_20_38) := u_getfT (s_getf (C := er_2) (T := et_2) (N := 19) (ref := "Plateroomprinter$Engine") (index := 24) (ci := 2) (k := 6) hq_20 ho_20 ⟨rfl, by decide, ei_2, (List.mem_of_getElem? (i := 623) (by decide +kernel)), .inl rfl⟩ (by decide +kernel) rfl : e_Sn 20 38 (o_getf (e_f1 2 6) 41)) t_20_41
noncomputable def n_20_37 : e_Y := u_ld f_okA f_l0 n_20_38
theorem t_20_37 : e_Sn 20 37 (e_un n_20_37) := u_ldAT f_l0_eq (s_aload (i := .aload_n 0) (len := 1) hq_20 (by decide +kernel) rfl (.inr ⟨0, rfl, rfl, rfl⟩) : e_Sn 20 37 (o_load e_okR 0 38)) t_20_38
noncomputable def n_20_36 : e_Y := u_ald 0 (u_old (o_ald e_fcs 37) n_20_37) n_20_37
theorem t_20_36 : e_Sn 20 36 (e_un n_20_36) := u_aldT (s_iald hq_20 (by decide +kernel) rfl : e_Sn 20 36 (o_ald e_fcs 37)) t_20_37
noncomputable def n_20_35 : e_Y := u_ld f_okI f_l2 n_20_36
theorem t_20_35 : e_Sn 20 35 (e_un n_20_35) := u_ldIT f_l2_eq (s_iload (i := .iload_n 2) (len := 1) hq_20 (by decide +kernel) rfl (.inr ⟨2, rfl, rfl, rfl⟩) : e_Sn 20 35 (o_load e_okI 2 36)) t_20_36
noncomputable def n_20_32 : e_Y := u_getf 2 7 (u_old (o_getf (e_f1 2 7) 35) n_20_35) n_20_35
theorem t_20_32 : e_Sn 20 32 (e_un n_20_32) := u_getfT (s_getf (C := er_2) (T := et_2) (N := 19) (ref := "Plateroomprinter$Engine") (index := 27) (ci := 2) (k := 7) hq_20 ho_20 ⟨rfl, by decide, ei_2, (List.mem_of_getElem? (i := 624) (by decide +kernel)), .inl rfl⟩ (by decide +kernel) rfl : e_Sn 20 32 (o_getf (e_f1 2 7) 35)) t_20_35
noncomputable def n_20_31 : e_Y := u_ld f_okA f_l0 n_20_32
theorem t_20_31 : e_Sn 20 31 (e_un n_20_31) := u_ldAT f_l0_eq (s_aload (i := .aload_n 0) (len := 1) hq_20 (by decide +kernel) rfl (.inr ⟨0, rfl, rfl, rfl⟩) : e_Sn 20 31 (o_load e_okR 0 32)) t_20_32
noncomputable def n_20_30 : e_Y := u_st f_okI f_s2 n_20_31
theorem t_20_30 : e_Sn 20 30 (e_un n_20_30) := u_stIT (fun _ _ _ => f_s2_eq) (s_istore (i := .istore_n 2) (len := 1) hq_20 (by decide +kernel) rfl (.inr ⟨2, rfl, rfl, rfl⟩) : e_Sn 20 30 (o_store e_okI 2 31)) t_20_31
noncomputable def n_20_29 : e_Y := u_bin a_isub (u_old (o_isub 30) n_20_30) n_20_30
theorem t_20_29 : e_Sn 20 29 (e_un n_20_29) := u_isubT (s_isub hq_20 (by decide +kernel) rfl : e_Sn 20 29 (o_isub 30)) t_20_30
noncomputable def n_20_28 : e_Y := u_push (.inl 2147483649) n_20_29
theorem t_20_28 : e_Sn 20 28 (e_un n_20_28) := u_pushT (s_iconst (n := (1)) hq_20 (by decide +kernel) rfl ⟨by decide +kernel, by decide +kernel⟩ : e_Sn 20 28 (o_push (.inl 2147483649) 29)) t_20_29
noncomputable def n_20_25 : e_Y := u_getf 2 13 (u_old (o_getf (e_f1 2 13) 28) n_20_28) n_20_28
theorem t_20_25 : e_Sn 20 25 (e_un n_20_25) := u_getfT (s_getf (C := er_2) (T := et_2) (N := 19) (ref := "Plateroomprinter$Engine") (index := 53) (ci := 2) (k := 13) hq_20 ho_20 ⟨rfl, by decide, ei_2, (List.mem_of_getElem? (i := 630) (by decide +kernel)), .inl rfl⟩ (by decide +kernel) rfl : e_Sn 20 25 (o_getf (e_f1 2 13) 28)) t_20_28
noncomputable def n_20_24 : e_Y := u_ld f_okA f_l0 n_20_25
theorem t_20_24 : e_Sn 20 24 (e_un n_20_24) := u_ldAT f_l0_eq (s_aload (i := .aload_n 0) (len := 1) hq_20 (by decide +kernel) rfl (.inr ⟨0, rfl, rfl, rfl⟩) : e_Sn 20 24 (o_load e_okR 0 25)) t_20_25
noncomputable def n_20_21 : e_Y := u_jmp y_le (u_old2 (o_cgt 157 24) 157 n_20_157 n_20_24) n_20_157 n_20_24
theorem t_20_21 : e_Sn 20 21 (e_un n_20_21) := u_cgtT rfl (s_cgt (off := (136)) hq_20 (by decide +kernel) rfl rfl : e_Sn 20 21 (o_cgt 157 24)) t_20_157 t_20_24
noncomputable def n_20_19 : e_Y := u_push (.inl 2147483660) n_20_21
theorem t_20_19 : e_Sn 20 19 (e_un n_20_19) := u_pushT (s_bipush (n := (12)) hq_20 (by decide +kernel) rfl ⟨by decide +kernel, by decide +kernel⟩ : e_Sn 20 19 (o_push (.inl 2147483660) 21)) t_20_21
noncomputable def n_20_16 : e_Y := u_getf 2 13 (u_old (o_getf (e_f1 2 13) 19) n_20_19) n_20_19
theorem t_20_16 : e_Sn 20 16 (e_un n_20_16) := u_getfT (s_getf (C := er_2) (T := et_2) (N := 19) (ref := "Plateroomprinter$Engine") (index := 53) (ci := 2) (k := 13) hq_20 ho_20 ⟨rfl, by decide, ei_2, (List.mem_of_getElem? (i := 630) (by decide +kernel)), .inl rfl⟩ (by decide +kernel) rfl : e_Sn 20 16 (o_getf (e_f1 2 13) 19)) t_20_19
noncomputable def n_20_15 : e_Y := u_ld f_okA f_l0 n_20_16
theorem t_20_15 : e_Sn 20 15 (e_un n_20_15) := u_ldAT f_l0_eq (s_aload (i := .aload_n 0) (len := 1) hq_20 (by decide +kernel) rfl (.inr ⟨0, rfl, rfl, rfl⟩) : e_Sn 20 15 (o_load e_okR 0 16)) t_20_16
noncomputable def n_20_12 : e_Y := u_if y_le0 (u_old2 (o_ifgt 15 157) 15 n_20_15 n_20_157) n_20_15 n_20_157
theorem t_20_12 : e_Sn 20 12 (e_un n_20_12) := u_ifgtT rfl (s_ifle (off := (145)) hq_20 (by decide +kernel) rfl rfl : e_Sn 20 12 (o_ifgt 15 157)) t_20_15 t_20_157
noncomputable def n_20_9 : e_Y := u_getf 2 13 (u_old (o_getf (e_f1 2 13) 12) n_20_12) n_20_12
theorem t_20_9 : e_Sn 20 9 (e_un n_20_9) := u_getfT (s_getf (C := er_2) (T := et_2) (N := 19) (ref := "Plateroomprinter$Engine") (index := 53) (ci := 2) (k := 13) hq_20 ho_20 ⟨rfl, by decide, ei_2, (List.mem_of_getElem? (i := 630) (by decide +kernel)), .inl rfl⟩ (by decide +kernel) rfl : e_Sn 20 9 (o_getf (e_f1 2 13) 12)) t_20_12
noncomputable def n_20_8 : e_Y := u_ld f_okA f_l0 n_20_9
theorem t_20_8 : e_Sn 20 8 (e_un n_20_8) := u_ldAT f_l0_eq (s_aload (i := .aload_n 0) (len := 1) hq_20 (by decide +kernel) rfl (.inr ⟨0, rfl, rfl, rfl⟩) : e_Sn 20 8 (o_load e_okR 0 9)) t_20_9
noncomputable def n_20_5 : e_Y := u_jmp y_ge (u_old2 (o_clt 8 157) 8 n_20_8 n_20_157) n_20_8 n_20_157
theorem t_20_5 : e_Sn 20 5 (e_un n_20_5) := u_cltT rfl (s_cge (off := (152)) hq_20 (by decide +kernel) rfl rfl : e_Sn 20 5 (o_clt 8 157)) t_20_8 t_20_157
noncomputable def n_20_3 : e_Y := u_push (e_I 2148483648) n_20_5
theorem t_20_3 : e_Sn 20 3 (e_un n_20_3) := u_pushT (s_ldc (index := 84) (v := (1000000)) hq_20 ho_20 (List.mem_of_getElem? (i := 792) (by decide +kernel)) (by decide +kernel) rfl ⟨by decide +kernel, by decide +kernel⟩ : e_Sn 20 3 (o_push (e_I 2148483648) 5)) t_20_5
noncomputable def n_20_2 : e_Y := u_ld f_okI f_l1 n_20_3
theorem t_20_2 : e_Sn 20 2 (e_un n_20_2) := u_ldIT f_l1_eq (s_iload (i := .iload_n 1) (len := 1) hq_20 (by decide +kernel) rfl (.inr ⟨1, rfl, rfl, rfl⟩) : e_Sn 20 2 (o_load e_okI 1 3)) t_20_3
noncomputable def n_20_1 : e_Y := u_st f_okI f_s1 n_20_2
theorem t_20_1 : e_Sn 20 1 (e_un n_20_1) := u_stIT (fun _ _ _ => f_s1_eq) (s_istore (i := .istore_n 1) (len := 1) hq_20 (by decide +kernel) rfl (.inr ⟨1, rfl, rfl, rfl⟩) : e_Sn 20 1 (o_store e_okI 1 2)) t_20_2
noncomputable def n_20_0 : e_Y := u_push (.inl 2147483648) n_20_1
theorem t_20_0 : e_Sn 20 0 (e_un n_20_0) := u_pushT (s_iconst (n := (0)) hq_20 (by decide +kernel) rfl ⟨by decide +kernel, by decide +kernel⟩ : e_Sn 20 0 (o_push (.inl 2147483648) 1)) t_20_1
noncomputable def e_tb_20 : e_X := (e_br 2 (e_lf 0 (e_un n_20_0)) (e_lf 2 (e_un n_20_2)))
theorem e_tk_20 : e_Tb 20 e_tb_20 := (e_brT (e_lfT t_20_0) (e_lfT t_20_2))
theorem hq_9 : (e_ml[9]?).map (·.2.1) = some prog_2_method_3_code := rfl
theorem ho_9 : (e_ml[9]?).map (·.1.cls) = some "Plateroomprinter$Code" := rfl
theorem hr_9 : (e_ml[9]?).map (·.2.2.2) = some (some .int) := rfl
noncomputable def n_9_21 : e_Y := u_retI
theorem t_9_21 : e_Sn 9 21 (e_un n_9_21) := u_retIT (s_iret hq_9 hr_9 (by decide +kernel) : e_Sn 9 21 (o_ret e_okI))
noncomputable def n_9_17 : e_Y := n_9_21
theorem t_9_17 : e_Sn 9 17 (e_un n_9_17) := u_gotoT (s_goto (off := (4)) hq_9 (by decide +kernel) rfl : e_Sn 9 17 (o_goto 21)) t_9_21
noncomputable def n_9_16 : e_Y := u_ald 0 (u_old (o_ald e_fcs 17) n_9_17) n_9_17
theorem t_9_16 : e_Sn 9 16 (e_un n_9_16) := u_aldT (s_iald hq_9 (by decide +kernel) rfl : e_Sn 9 16 (o_ald e_fcs 17)) t_9_17
noncomputable def n_9_15 : e_Y := u_ld f_okI f_l1 n_9_16
theorem t_9_15 : e_Sn 9 15 (e_un n_9_15) := u_ldIT f_l1_eq (s_iload (i := .iload_n 1) (len := 1) hq_9 (by decide +kernel) rfl (.inr ⟨1, rfl, rfl, rfl⟩) : e_Sn 9 15 (o_load e_okI 1 16)) t_9_16
noncomputable def n_9_12 : e_Y := u_getf 1 0 (u_old (o_getf (e_f1 1 0) 15) n_9_15) n_9_15
theorem t_9_12 : e_Sn 9 12 (e_un n_9_12) := u_getfT (s_getf (C := er_1) (T := et_1) (N := 4) (ref := "Plateroomprinter$Code") (index := 11) (ci := 1) (k := 0) hq_9 ho_9 ⟨rfl, by decide, ei_1, (List.mem_of_getElem? (i := 198) (by decide +kernel)), .inl rfl⟩ (by decide +kernel) rfl : e_Sn 9 12 (o_getf (e_f1 1 0) 15)) t_9_15
noncomputable def n_9_11 : e_Y := u_ld f_okA f_l0 n_9_12
theorem t_9_11 : e_Sn 9 11 (e_un n_9_11) := u_ldAT f_l0_eq (s_aload (i := .aload_n 0) (len := 1) hq_9 (by decide +kernel) rfl (.inr ⟨0, rfl, rfl, rfl⟩) : e_Sn 9 11 (o_load e_okR 0 12)) t_9_12
noncomputable def n_9_8 : e_Y := u_jmp y_ge (u_old2 (o_clt 11 20) 11 n_9_11 (u_at 20)) n_9_11 (u_at 20)
theorem t_9_8 : e_Sn 9 8 (e_un n_9_8) := u_cltT rfl (s_cge (off := (12)) hq_9 (by decide +kernel) rfl rfl : e_Sn 9 8 (o_clt 11 20)) t_9_11 u_atT
noncomputable def n_9_5 : e_Y := u_push (.inl 2147485648) n_9_8
theorem t_9_5 : e_Sn 9 5 (e_un n_9_5) := u_pushT (s_sipush (n := (2000)) hq_9 (by decide +kernel) rfl ⟨by decide +kernel, by decide +kernel⟩ : e_Sn 9 5 (o_push (.inl 2147485648) 8)) t_9_8
noncomputable def n_9_4 : e_Y := u_ld f_okI f_l1 n_9_5
theorem t_9_4 : e_Sn 9 4 (e_un n_9_4) := u_ldIT f_l1_eq (s_iload (i := .iload_n 1) (len := 1) hq_9 (by decide +kernel) rfl (.inr ⟨1, rfl, rfl, rfl⟩) : e_Sn 9 4 (o_load e_okI 1 5)) t_9_5
noncomputable def n_9_1 : e_Y := u_if y_ge0 (u_old2 (o_iflt 20 4) 20 (u_at 20) n_9_4) (u_at 20) n_9_4
theorem t_9_1 : e_Sn 9 1 (e_un n_9_1) := u_ifltT rfl (s_iflt (off := (19)) hq_9 (by decide +kernel) rfl rfl : e_Sn 9 1 (o_iflt 20 4)) u_atT t_9_4
noncomputable def n_9_0 : e_Y := u_ld f_okI f_l1 n_9_1
theorem t_9_0 : e_Sn 9 0 (e_un n_9_0) := u_ldIT f_l1_eq (s_iload (i := .iload_n 1) (len := 1) hq_9 (by decide +kernel) rfl (.inr ⟨1, rfl, rfl, rfl⟩) : e_Sn 9 0 (o_load e_okI 1 1)) t_9_1
noncomputable def e_tb_9 : e_X := (e_lf 0 (e_un n_9_0))
theorem e_tk_9 : e_Tb 9 e_tb_9 := (e_lfT t_9_0)
theorem hq_10 : (e_ml[10]?).map (·.2.1) = some prog_2_method_4_code := rfl
theorem ho_10 : (e_ml[10]?).map (·.1.cls) = some "Plateroomprinter$Code" := rfl
theorem hr_10 : (e_ml[10]?).map (·.2.2.2) = some (some .int) := rfl
noncomputable def n_10_21 : e_Y := u_retI
theorem t_10_21 : e_Sn 10 21 (e_un n_10_21) := u_retIT (s_iret hq_10 hr_10 (by decide +kernel) : e_Sn 10 21 (o_ret e_okI))
noncomputable def n_10_17 : e_Y := n_10_21
theorem t_10_17 : e_Sn 10 17 (e_un n_10_17) := u_gotoT (s_goto (off := (4)) hq_10 (by decide +kernel) rfl : e_Sn 10 17 (o_goto 21)) t_10_21
noncomputable def n_10_16 : e_Y := u_ald 0 (u_old (o_ald e_fcs 17) n_10_17) n_10_17
theorem t_10_16 : e_Sn 10 16 (e_un n_10_16) := u_aldT (s_iald hq_10 (by decide +kernel) rfl : e_Sn 10 16 (o_ald e_fcs 17)) t_10_17
noncomputable def n_10_15 : e_Y := u_ld f_okI f_l1 n_10_16
theorem t_10_15 : e_Sn 10 15 (e_un n_10_15) := u_ldIT f_l1_eq (s_iload (i := .iload_n 1) (len := 1) hq_10 (by decide +kernel) rfl (.inr ⟨1, rfl, rfl, rfl⟩) : e_Sn 10 15 (o_load e_okI 1 16)) t_10_16
noncomputable def n_10_12 : e_Y := u_getf 1 1 (u_old (o_getf (e_f1 1 1) 15) n_10_15) n_10_15
theorem t_10_12 : e_Sn 10 12 (e_un n_10_12) := u_getfT (s_getf (C := er_1) (T := et_1) (N := 4) (ref := "Plateroomprinter$Code") (index := 15) (ci := 1) (k := 1) hq_10 ho_10 ⟨rfl, by decide, ei_1, (List.mem_of_getElem? (i := 199) (by decide +kernel)), .inl rfl⟩ (by decide +kernel) rfl : e_Sn 10 12 (o_getf (e_f1 1 1) 15)) t_10_15
noncomputable def n_10_11 : e_Y := u_ld f_okA f_l0 n_10_12
theorem t_10_11 : e_Sn 10 11 (e_un n_10_11) := u_ldAT f_l0_eq (s_aload (i := .aload_n 0) (len := 1) hq_10 (by decide +kernel) rfl (.inr ⟨0, rfl, rfl, rfl⟩) : e_Sn 10 11 (o_load e_okR 0 12)) t_10_12
noncomputable def n_10_8 : e_Y := u_jmp y_ge (u_old2 (o_clt 11 20) 11 n_10_11 (u_at 20)) n_10_11 (u_at 20)
theorem t_10_8 : e_Sn 10 8 (e_un n_10_8) := u_cltT rfl (s_cge (off := (12)) hq_10 (by decide +kernel) rfl rfl : e_Sn 10 8 (o_clt 11 20)) t_10_11 u_atT
noncomputable def n_10_5 : e_Y := u_push (.inl 2147485648) n_10_8
theorem t_10_5 : e_Sn 10 5 (e_un n_10_5) := u_pushT (s_sipush (n := (2000)) hq_10 (by decide +kernel) rfl ⟨by decide +kernel, by decide +kernel⟩ : e_Sn 10 5 (o_push (.inl 2147485648) 8)) t_10_8
noncomputable def n_10_4 : e_Y := u_ld f_okI f_l1 n_10_5
theorem t_10_4 : e_Sn 10 4 (e_un n_10_4) := u_ldIT f_l1_eq (s_iload (i := .iload_n 1) (len := 1) hq_10 (by decide +kernel) rfl (.inr ⟨1, rfl, rfl, rfl⟩) : e_Sn 10 4 (o_load e_okI 1 5)) t_10_5
noncomputable def n_10_1 : e_Y := u_if y_ge0 (u_old2 (o_iflt 20 4) 20 (u_at 20) n_10_4) (u_at 20) n_10_4
theorem t_10_1 : e_Sn 10 1 (e_un n_10_1) := u_ifltT rfl (s_iflt (off := (19)) hq_10 (by decide +kernel) rfl rfl : e_Sn 10 1 (o_iflt 20 4)) u_atT t_10_4
noncomputable def n_10_0 : e_Y := u_ld f_okI f_l1 n_10_1
theorem t_10_0 : e_Sn 10 0 (e_un n_10_0) := u_ldIT f_l1_eq (s_iload (i := .iload_n 1) (len := 1) hq_10 (by decide +kernel) rfl (.inr ⟨1, rfl, rfl, rfl⟩) : e_Sn 10 0 (o_load e_okI 1 1)) t_10_1
noncomputable def e_tb_10 : e_X := (e_lf 0 (e_un n_10_0))
theorem e_tk_10 : e_Tb 10 e_tb_10 := (e_lfT t_10_0)
theorem hq_18 : (e_ml[18]?).map (·.2.1) = some prog_3_method_18_code := rfl
theorem ho_18 : (e_ml[18]?).map (·.1.cls) = some "Plateroomprinter$Engine" := rfl
theorem hr_18 : (e_ml[18]?).map (·.2.2.2) = some (some .int) := rfl
noncomputable def n_18_143 : e_Y := u_retI
theorem t_18_143 : e_Sn 18 143 (e_un n_18_143) := u_retIT (s_iret hq_18 hr_18 (by decide +kernel) : e_Sn 18 143 (o_ret e_okI))
noncomputable def n_18_142 : e_Y := u_push (.inl 2147483648) n_18_143
theorem t_18_142 : e_Sn 18 142 (e_un n_18_142) := u_pushT (s_iconst (n := (0)) hq_18 (by decide +kernel) rfl ⟨by decide +kernel, by decide +kernel⟩ : e_Sn 18 142 (o_push (.inl 2147483648) 143)) t_18_143
noncomputable def n_18_124 : e_Y := u_jmp y_ne (u_old2 (o_ceq 127 142) 127 (u_at 127) n_18_142) (u_at 127) n_18_142
theorem t_18_124 : e_Sn 18 124 (e_un n_18_124) := u_ceqT rfl (s_cne (off := (18)) hq_18 (by decide +kernel) rfl rfl : e_Sn 18 124 (o_ceq 127 142)) u_atT t_18_142
noncomputable def n_18_123 : e_Y := u_push (.inl 2147483650) n_18_124
theorem t_18_123 : e_Sn 18 123 (e_un n_18_123) := u_pushT (s_iconst (n := (2)) hq_18 (by decide +kernel) rfl ⟨by decide +kernel, by decide +kernel⟩ : e_Sn 18 123 (o_push (.inl 2147483650) 124)) t_18_124
noncomputable def n_18_122 : e_Y := u_ld f_okI f_l1 n_18_123
theorem t_18_122 : e_Sn 18 122 (e_un n_18_122) := u_ldIT f_l1_eq (s_iload (i := .iload_n 1) (len := 1) hq_18 (by decide +kernel) rfl (.inr ⟨1, rfl, rfl, rfl⟩) : e_Sn 18 122 (o_load e_okI 1 123)) t_18_123
noncomputable def n_18_119 : e_Y := u_old (o_putf (e_f1 2 14) e_okI 122) n_18_122
theorem t_18_119 : e_Sn 18 119 (e_un n_18_119) := u_oldT (s_putf (ty0 := ey_2) (ok := e_okI) (C := er_2) (T := et_2) (N := 19) (ref := "Plateroomprinter$Engine") (index := 57) (ci := 2) (k := 14) hq_18 ho_18 ⟨rfl, by decide, ei_2, (List.mem_of_getElem? (i := 631) (by decide +kernel)), .inl rfl⟩ eo_2 en_2 e_oksI (.inl rfl) (by decide +kernel) rfl : e_Sn 18 119 (o_putf (e_f1 2 14) e_okI 122)) t_18_122 (e_cg_putf (e_f1 2 14) e_okI)
noncomputable def n_18_118 : e_Y := u_bin a_iadd (u_old (o_iadd 119) n_18_119) n_18_119
theorem t_18_118 : e_Sn 18 118 (e_un n_18_118) := u_iaddT (s_iadd hq_18 (by decide +kernel) rfl : e_Sn 18 118 (o_iadd 119)) t_18_119
noncomputable def n_18_117 : e_Y := u_push (.inl 2147483649) n_18_118
theorem t_18_117 : e_Sn 18 117 (e_un n_18_117) := u_pushT (s_iconst (n := (1)) hq_18 (by decide +kernel) rfl ⟨by decide +kernel, by decide +kernel⟩ : e_Sn 18 117 (o_push (.inl 2147483649) 118)) t_18_118
noncomputable def n_18_114 : e_Y := u_getf 2 14 (u_old (o_getf (e_f1 2 14) 117) n_18_117) n_18_117
theorem t_18_114 : e_Sn 18 114 (e_un n_18_114) := u_getfT (s_getf (C := er_2) (T := et_2) (N := 19) (ref := "Plateroomprinter$Engine") (index := 57) (ci := 2) (k := 14) hq_18 ho_18 ⟨rfl, by decide, ei_2, (List.mem_of_getElem? (i := 631) (by decide +kernel)), .inl rfl⟩ (by decide +kernel) rfl : e_Sn 18 114 (o_getf (e_f1 2 14) 117)) t_18_117
noncomputable def n_18_113 : e_Y := u_old (o_dup 114) n_18_114
theorem t_18_113 : e_Sn 18 113 (e_un n_18_113) := u_oldT (s_dup hq_18 (by decide +kernel) rfl : e_Sn 18 113 (o_dup 114)) t_18_114 e_cg_dup
noncomputable def n_18_112 : e_Y := u_ld f_okA f_l0 n_18_113
theorem t_18_112 : e_Sn 18 112 (e_un n_18_112) := u_ldAT f_l0_eq (s_aload (i := .aload_n 0) (len := 1) hq_18 (by decide +kernel) rfl (.inr ⟨0, rfl, rfl, rfl⟩) : e_Sn 18 112 (o_load e_okR 0 113)) t_18_113
noncomputable def n_18_111 : e_Y := u_old (o_ast 0 e_okI 112) n_18_112
theorem t_18_111 : e_Sn 18 111 (e_un n_18_111) := u_oldT (s_iast hq_18 (by decide +kernel) rfl : e_Sn 18 111 (o_ast 0 e_okI 112)) t_18_112 (e_cg_ast 0 e_okI)
noncomputable def n_18_109 : e_Y := u_ld f_okI f_l4 n_18_111
theorem t_18_109 : e_Sn 18 109 (e_un n_18_109) := u_ldIT f_l4_eq (s_iload (i := .iload 4) (len := 2) hq_18 (by decide +kernel) rfl (.inl ⟨rfl, rfl⟩) : e_Sn 18 109 (o_load e_okI 4 111)) t_18_111
noncomputable def n_18_107 : e_Y := u_ld f_okI f_l6 n_18_109
theorem t_18_107 : e_Sn 18 107 (e_un n_18_107) := u_ldIT f_l6_eq (s_iload (i := .iload 6) (len := 2) hq_18 (by decide +kernel) rfl (.inl ⟨rfl, rfl⟩) : e_Sn 18 107 (o_load e_okI 6 109)) t_18_109
noncomputable def n_18_104 : e_Y := u_getf 2 12 (u_old (o_getf (e_f1 2 12) 107) n_18_107) n_18_107
theorem t_18_104 : e_Sn 18 104 (e_un n_18_104) := u_getfT (s_getf (C := er_2) (T := et_2) (N := 19) (ref := "Plateroomprinter$Engine") (index := 42) (ci := 2) (k := 12) hq_18 ho_18 ⟨rfl, by decide, ei_2, (List.mem_of_getElem? (i := 629) (by decide +kernel)), .inl rfl⟩ (by decide +kernel) rfl : e_Sn 18 104 (o_getf (e_f1 2 12) 107)) t_18_107
noncomputable def n_18_103 : e_Y := u_ld f_okA f_l0 n_18_104
theorem t_18_103 : e_Sn 18 103 (e_un n_18_103) := u_ldAT f_l0_eq (s_aload (i := .aload_n 0) (len := 1) hq_18 (by decide +kernel) rfl (.inr ⟨0, rfl, rfl, rfl⟩) : e_Sn 18 103 (o_load e_okR 0 104)) t_18_104
noncomputable def n_18_102 : e_Y := u_old (o_ast 0 e_okI 103) n_18_103
theorem t_18_102 : e_Sn 18 102 (e_un n_18_102) := u_oldT (s_iast hq_18 (by decide +kernel) rfl : e_Sn 18 102 (o_ast 0 e_okI 103)) t_18_103 (e_cg_ast 0 e_okI)
noncomputable def n_18_101 : e_Y := u_ld f_okI f_l3 n_18_102
theorem t_18_101 : e_Sn 18 101 (e_un n_18_101) := u_ldIT f_l3_eq (s_iload (i := .iload_n 3) (len := 1) hq_18 (by decide +kernel) rfl (.inr ⟨3, rfl, rfl, rfl⟩) : e_Sn 18 101 (o_load e_okI 3 102)) t_18_102
noncomputable def n_18_99 : e_Y := u_ld f_okI f_l6 n_18_101
theorem t_18_99 : e_Sn 18 99 (e_un n_18_99) := u_ldIT f_l6_eq (s_iload (i := .iload 6) (len := 2) hq_18 (by decide +kernel) rfl (.inl ⟨rfl, rfl⟩) : e_Sn 18 99 (o_load e_okI 6 101)) t_18_101
noncomputable def n_18_96 : e_Y := u_getf 2 11 (u_old (o_getf (e_f1 2 11) 99) n_18_99) n_18_99
theorem t_18_96 : e_Sn 18 96 (e_un n_18_96) := u_getfT (s_getf (C := er_2) (T := et_2) (N := 19) (ref := "Plateroomprinter$Engine") (index := 39) (ci := 2) (k := 11) hq_18 ho_18 ⟨rfl, by decide, ei_2, (List.mem_of_getElem? (i := 628) (by decide +kernel)), .inl rfl⟩ (by decide +kernel) rfl : e_Sn 18 96 (o_getf (e_f1 2 11) 99)) t_18_99
noncomputable def n_18_95 : e_Y := u_ld f_okA f_l0 n_18_96
theorem t_18_95 : e_Sn 18 95 (e_un n_18_95) := u_ldAT f_l0_eq (s_aload (i := .aload_n 0) (len := 1) hq_18 (by decide +kernel) rfl (.inr ⟨0, rfl, rfl, rfl⟩) : e_Sn 18 95 (o_load e_okR 0 96)) t_18_96
noncomputable def n_18_94 : e_Y := u_old (o_ast 0 e_okI 95) n_18_95
theorem t_18_94 : e_Sn 18 94 (e_un n_18_94) := u_oldT (s_iast hq_18 (by decide +kernel) rfl : e_Sn 18 94 (o_ast 0 e_okI 95)) t_18_95 (e_cg_ast 0 e_okI)
noncomputable def n_18_93 : e_Y := u_ld f_okI f_l2 n_18_94
theorem t_18_93 : e_Sn 18 93 (e_un n_18_93) := u_ldIT f_l2_eq (s_iload (i := .iload_n 2) (len := 1) hq_18 (by decide +kernel) rfl (.inr ⟨2, rfl, rfl, rfl⟩) : e_Sn 18 93 (o_load e_okI 2 94)) t_18_94
noncomputable def n_18_91 : e_Y := u_ld f_okI f_l6 n_18_93
theorem t_18_91 : e_Sn 18 91 (e_un n_18_91) := u_ldIT f_l6_eq (s_iload (i := .iload 6) (len := 2) hq_18 (by decide +kernel) rfl (.inl ⟨rfl, rfl⟩) : e_Sn 18 91 (o_load e_okI 6 93)) t_18_93
noncomputable def n_18_88 : e_Y := u_getf 2 10 (u_old (o_getf (e_f1 2 10) 91) n_18_91) n_18_91
theorem t_18_88 : e_Sn 18 88 (e_un n_18_88) := u_getfT (s_getf (C := er_2) (T := et_2) (N := 19) (ref := "Plateroomprinter$Engine") (index := 36) (ci := 2) (k := 10) hq_18 ho_18 ⟨rfl, by decide, ei_2, (List.mem_of_getElem? (i := 627) (by decide +kernel)), .inl rfl⟩ (by decide +kernel) rfl : e_Sn 18 88 (o_getf (e_f1 2 10) 91)) t_18_91
noncomputable def n_18_87 : e_Y := u_ld f_okA f_l0 n_18_88
theorem t_18_87 : e_Sn 18 87 (e_un n_18_87) := u_ldAT f_l0_eq (s_aload (i := .aload_n 0) (len := 1) hq_18 (by decide +kernel) rfl (.inr ⟨0, rfl, rfl, rfl⟩) : e_Sn 18 87 (o_load e_okR 0 88)) t_18_88
noncomputable def n_18_86 : e_Y := u_old (o_ast 0 e_okI 87) n_18_87
theorem t_18_86 : e_Sn 18 86 (e_un n_18_86) := u_oldT (s_iast hq_18 (by decide +kernel) rfl : e_Sn 18 86 (o_ast 0 e_okI 87)) t_18_87 (e_cg_ast 0 e_okI)
noncomputable def n_18_85 : e_Y := u_ld f_okI f_l1 n_18_86
theorem t_18_85 : e_Sn 18 85 (e_un n_18_85) := u_ldIT f_l1_eq (s_iload (i := .iload_n 1) (len := 1) hq_18 (by decide +kernel) rfl (.inr ⟨1, rfl, rfl, rfl⟩) : e_Sn 18 85 (o_load e_okI 1 86)) t_18_86
noncomputable def n_18_83 : e_Y := u_ld f_okI f_l6 n_18_85
theorem t_18_83 : e_Sn 18 83 (e_un n_18_83) := u_ldIT f_l6_eq (s_iload (i := .iload 6) (len := 2) hq_18 (by decide +kernel) rfl (.inl ⟨rfl, rfl⟩) : e_Sn 18 83 (o_load e_okI 6 85)) t_18_85
noncomputable def n_18_80 : e_Y := u_getf 2 9 (u_old (o_getf (e_f1 2 9) 83) n_18_83) n_18_83
theorem t_18_80 : e_Sn 18 80 (e_un n_18_80) := u_getfT (s_getf (C := er_2) (T := et_2) (N := 19) (ref := "Plateroomprinter$Engine") (index := 33) (ci := 2) (k := 9) hq_18 ho_18 ⟨rfl, by decide, ei_2, (List.mem_of_getElem? (i := 626) (by decide +kernel)), .inl rfl⟩ (by decide +kernel) rfl : e_Sn 18 80 (o_getf (e_f1 2 9) 83)) t_18_83
noncomputable def n_18_79 : e_Y := u_ld f_okA f_l0 n_18_80
theorem t_18_79 : e_Sn 18 79 (e_un n_18_79) := u_ldAT f_l0_eq (s_aload (i := .aload_n 0) (len := 1) hq_18 (by decide +kernel) rfl (.inr ⟨0, rfl, rfl, rfl⟩) : e_Sn 18 79 (o_load e_okR 0 80)) t_18_80
noncomputable def n_18_73 : e_Y := u_jmp y_ge (u_old2 (o_clt 79 76) 79 n_18_79 (u_at 76)) n_18_79 (u_at 76)
theorem t_18_73 : e_Sn 18 73 (e_un n_18_73) := u_cltT rfl (s_clt (off := (6)) hq_18 (by decide +kernel) rfl rfl : e_Sn 18 73 (o_clt 79 76)) t_18_79 u_atT
noncomputable def n_18_71 : e_Y := u_push (.inl 2147483660) n_18_73
theorem t_18_71 : e_Sn 18 71 (e_un n_18_71) := u_pushT (s_bipush (n := (12)) hq_18 (by decide +kernel) rfl ⟨by decide +kernel, by decide +kernel⟩ : e_Sn 18 71 (o_push (.inl 2147483660) 73)) t_18_73
noncomputable def n_18_69 : e_Y := u_ld f_okI f_l6 n_18_71
theorem t_18_69 : e_Sn 18 69 (e_un n_18_69) := u_ldIT f_l6_eq (s_iload (i := .iload 6) (len := 2) hq_18 (by decide +kernel) rfl (.inl ⟨rfl, rfl⟩) : e_Sn 18 69 (o_load e_okI 6 71)) t_18_71
noncomputable def n_18_66 : e_Y := u_if y_ge0 (u_old2 (o_iflt 76 69) 76 (u_at 76) n_18_69) (u_at 76) n_18_69
theorem t_18_66 : e_Sn 18 66 (e_un n_18_66) := u_ifltT rfl (s_iflt (off := (10)) hq_18 (by decide +kernel) rfl rfl : e_Sn 18 66 (o_iflt 76 69)) u_atT t_18_69
noncomputable def n_18_64 : e_Y := u_ld f_okI f_l6 n_18_66
theorem t_18_64 : e_Sn 18 64 (e_un n_18_64) := u_ldIT f_l6_eq (s_iload (i := .iload 6) (len := 2) hq_18 (by decide +kernel) rfl (.inl ⟨rfl, rfl⟩) : e_Sn 18 64 (o_load e_okI 6 66)) t_18_66
noncomputable def n_18_61 : e_Y := u_if y_ne0 (u_old2 (o_ifeq 64 76) 64 n_18_64 (u_at 76)) n_18_64 (u_at 76)
theorem t_18_61 : e_Sn 18 61 (e_un n_18_61) := u_ifeqT rfl (s_ifne (off := (15)) hq_18 (by decide +kernel) rfl rfl : e_Sn 18 61 (o_ifeq 64 76)) t_18_64 u_atT
noncomputable def n_18_59 : e_Y := u_ld f_okI f_l7 n_18_61
theorem t_18_59 : e_Sn 18 59 (e_un n_18_59) := u_ldIT f_l7_eq (s_iload (i := .iload 7) (len := 2) hq_18 (by decide +kernel) rfl (.inl ⟨rfl, rfl⟩) : e_Sn 18 59 (o_load e_okI 7 61)) t_18_61
noncomputable def n_18_57 : e_Y := u_st f_okI f_s7 n_18_59
theorem t_18_57 : e_Sn 18 57 (e_un n_18_57) := u_stIT (fun _ _ _ => f_s7_eq) (s_istore (i := .istore 7) (len := 2) hq_18 (by decide +kernel) rfl (.inl ⟨rfl, rfl⟩) : e_Sn 18 57 (o_store e_okI 7 59)) t_18_59
noncomputable def n_18_54 : e_Y := u_callV 2 16 3 22 3 n_16_0 n_18_57
theorem t_18_54 : e_Sn 18 54 (e_un n_18_54) := u_callVT rfl (s_callV (ci := 2) (C := er_2) (T := et_2) (N := 19) (index := 71) hq_18 ho_18 hy_16 hp_16 hc_16 hi_16 hd_16 (List.mem_of_getElem? (i := 784) (by decide +kernel)) hs_16 (List.mem_of_getElem? (i := 0) (by decide +kernel)) rfl (by decide +kernel) rfl : e_Sn 18 54 (o_callV (e_s1 2 16 3) 3 57)) t_16_0 t_18_57
noncomputable def n_18_53 : e_Y := u_ald 0 (u_old (o_ald e_fcs 54) n_18_54) n_18_54
theorem t_18_53 : e_Sn 18 53 (e_un n_18_53) := u_aldT (s_iald hq_18 (by decide +kernel) rfl : e_Sn 18 53 (o_ald e_fcs 54)) t_18_54
noncomputable def n_18_51 : e_Y := u_ld f_okI f_l5 n_18_53
theorem t_18_51 : e_Sn 18 51 (e_un n_18_51) := u_ldIT f_l5_eq (s_iload (i := .iload 5) (len := 2) hq_18 (by decide +kernel) rfl (.inl ⟨rfl, rfl⟩) : e_Sn 18 51 (o_load e_okI 5 53)) t_18_53
noncomputable def n_18_48 : e_Y := u_getf 2 4 (u_old (o_getf (e_f1 2 4) 51) n_18_51) n_18_51
theorem t_18_48 : e_Sn 18 48 (e_un n_18_48) := u_getfT (s_getf (C := er_2) (T := et_2) (N := 19) (ref := "Plateroomprinter$Engine") (index := 18) (ci := 2) (k := 4) hq_18 ho_18 ⟨rfl, by decide, ei_2, (List.mem_of_getElem? (i := 621) (by decide +kernel)), .inl rfl⟩ (by decide +kernel) rfl : e_Sn 18 48 (o_getf (e_f1 2 4) 51)) t_18_51
noncomputable def n_18_47 : e_Y := u_ld f_okA f_l0 n_18_48
theorem t_18_47 : e_Sn 18 47 (e_un n_18_47) := u_ldAT f_l0_eq (s_aload (i := .aload_n 0) (len := 1) hq_18 (by decide +kernel) rfl (.inr ⟨0, rfl, rfl, rfl⟩) : e_Sn 18 47 (o_load e_okR 0 48)) t_18_48
noncomputable def n_18_46 : e_Y := u_ald 0 (u_old (o_ald e_fcs 47) n_18_47) n_18_47
theorem t_18_46 : e_Sn 18 46 (e_un n_18_46) := u_aldT (s_iald hq_18 (by decide +kernel) rfl : e_Sn 18 46 (o_ald e_fcs 47)) t_18_47
noncomputable def n_18_44 : e_Y := u_ld f_okI f_l5 n_18_46
theorem t_18_44 : e_Sn 18 44 (e_un n_18_44) := u_ldIT f_l5_eq (s_iload (i := .iload 5) (len := 2) hq_18 (by decide +kernel) rfl (.inl ⟨rfl, rfl⟩) : e_Sn 18 44 (o_load e_okI 5 46)) t_18_46
noncomputable def n_18_41 : e_Y := u_getf 2 3 (u_old (o_getf (e_f1 2 3) 44) n_18_44) n_18_44
theorem t_18_41 : e_Sn 18 41 (e_un n_18_41) := u_getfT (s_getf (C := er_2) (T := et_2) (N := 19) (ref := "Plateroomprinter$Engine") (index := 15) (ci := 2) (k := 3) hq_18 ho_18 ⟨rfl, by decide, ei_2, (List.mem_of_getElem? (i := 619) (by decide +kernel)), .inl rfl⟩ (by decide +kernel) rfl : e_Sn 18 41 (o_getf (e_f1 2 3) 44)) t_18_44
noncomputable def n_18_40 : e_Y := u_ld f_okA f_l0 n_18_41
theorem t_18_40 : e_Sn 18 40 (e_un n_18_40) := u_ldAT f_l0_eq (s_aload (i := .aload_n 0) (len := 1) hq_18 (by decide +kernel) rfl (.inr ⟨0, rfl, rfl, rfl⟩) : e_Sn 18 40 (o_load e_okR 0 41)) t_18_41
noncomputable def n_18_39 : e_Y := u_ld f_okA f_l0 n_18_40
theorem t_18_39 : e_Sn 18 39 (e_un n_18_39) := u_ldAT f_l0_eq (s_aload (i := .aload_n 0) (len := 1) hq_18 (by decide +kernel) rfl (.inr ⟨0, rfl, rfl, rfl⟩) : e_Sn 18 39 (o_load e_okR 0 40)) t_18_40
noncomputable def n_18_37 : e_Y := u_st f_okI f_s6 n_18_39
theorem t_18_37 : e_Sn 18 37 (e_un n_18_37) := u_stIT (fun _ _ _ => f_s6_eq) (s_istore (i := .istore 6) (len := 2) hq_18 (by decide +kernel) rfl (.inl ⟨rfl, rfl⟩) : e_Sn 18 37 (o_store e_okI 6 39)) t_18_39
noncomputable def n_18_34 : e_Y := u_getf 2 13 (u_old (o_getf (e_f1 2 13) 37) n_18_37) n_18_37
theorem t_18_34 : e_Sn 18 34 (e_un n_18_34) := u_getfT (s_getf (C := er_2) (T := et_2) (N := 19) (ref := "Plateroomprinter$Engine") (index := 53) (ci := 2) (k := 13) hq_18 ho_18 ⟨rfl, by decide, ei_2, (List.mem_of_getElem? (i := 630) (by decide +kernel)), .inl rfl⟩ (by decide +kernel) rfl : e_Sn 18 34 (o_getf (e_f1 2 13) 37)) t_18_37
noncomputable def n_18_33 : e_Y := u_ld f_okA f_l0 n_18_34
theorem t_18_33 : e_Sn 18 33 (e_un n_18_33) := u_ldAT f_l0_eq (s_aload (i := .aload_n 0) (len := 1) hq_18 (by decide +kernel) rfl (.inr ⟨0, rfl, rfl, rfl⟩) : e_Sn 18 33 (o_load e_okR 0 34)) t_18_34
noncomputable def n_18_28 : e_Y := u_jmp y_ge (u_old2 (o_clt 33 31) 33 n_18_33 (u_at 31)) n_18_33 (u_at 31)
theorem t_18_28 : e_Sn 18 28 (e_un n_18_28) := u_cltT rfl (s_clt (off := (5)) hq_18 (by decide +kernel) rfl rfl : e_Sn 18 28 (o_clt 33 31)) t_18_33 u_atT
noncomputable def n_18_26 : e_Y := u_push (.inl 2147483654) n_18_28
theorem t_18_26 : e_Sn 18 26 (e_un n_18_26) := u_pushT (s_bipush (n := (6)) hq_18 (by decide +kernel) rfl ⟨by decide +kernel, by decide +kernel⟩ : e_Sn 18 26 (o_push (.inl 2147483654) 28)) t_18_28
noncomputable def n_18_24 : e_Y := u_ld f_okI f_l5 n_18_26
theorem t_18_24 : e_Sn 18 24 (e_un n_18_24) := u_ldIT f_l5_eq (s_iload (i := .iload 5) (len := 2) hq_18 (by decide +kernel) rfl (.inl ⟨rfl, rfl⟩) : e_Sn 18 24 (o_load e_okI 5 26)) t_18_26
noncomputable def n_18_21 : e_Y := u_if y_ge0 (u_old2 (o_iflt 31 24) 31 (u_at 31) n_18_24) (u_at 31) n_18_24
theorem t_18_21 : e_Sn 18 21 (e_un n_18_21) := u_ifltT rfl (s_iflt (off := (10)) hq_18 (by decide +kernel) rfl rfl : e_Sn 18 21 (o_iflt 31 24)) u_atT t_18_24
noncomputable def n_18_19 : e_Y := u_ld f_okI f_l5 n_18_21
theorem t_18_19 : e_Sn 18 19 (e_un n_18_19) := u_ldIT f_l5_eq (s_iload (i := .iload 5) (len := 2) hq_18 (by decide +kernel) rfl (.inl ⟨rfl, rfl⟩) : e_Sn 18 19 (o_load e_okI 5 21)) t_18_21
noncomputable def n_18_7 : e_Y := u_jmp y_le (u_old2 (o_cgt 10 19) 10 (u_at 10) n_18_19) (u_at 10) n_18_19
theorem t_18_7 : e_Sn 18 7 (e_un n_18_7) := u_cgtT rfl (s_cle (off := (12)) hq_18 (by decide +kernel) rfl rfl : e_Sn 18 7 (o_cgt 10 19)) u_atT t_18_19
noncomputable def n_18_5 : e_Y := u_ld f_okI f_l4 n_18_7
theorem t_18_5 : e_Sn 18 5 (e_un n_18_5) := u_ldIT f_l4_eq (s_iload (i := .iload 4) (len := 2) hq_18 (by decide +kernel) rfl (.inl ⟨rfl, rfl⟩) : e_Sn 18 5 (o_load e_okI 4 7)) t_18_7
noncomputable def n_18_4 : e_Y := u_ld f_okI f_l2 n_18_5
theorem t_18_4 : e_Sn 18 4 (e_un n_18_4) := u_ldIT f_l2_eq (s_iload (i := .iload_n 2) (len := 1) hq_18 (by decide +kernel) rfl (.inr ⟨2, rfl, rfl, rfl⟩) : e_Sn 18 4 (o_load e_okI 2 5)) t_18_5
noncomputable def n_18_1 : e_Y := u_if y_le0 (u_old2 (o_ifgt 4 13) 4 n_18_4 (u_at 13)) n_18_4 (u_at 13)
theorem t_18_1 : e_Sn 18 1 (e_un n_18_1) := u_ifgtT rfl (s_ifle (off := (12)) hq_18 (by decide +kernel) rfl rfl : e_Sn 18 1 (o_ifgt 4 13)) t_18_4 u_atT
noncomputable def n_18_0 : e_Y := u_ld f_okI f_l3 n_18_1
theorem t_18_0 : e_Sn 18 0 (e_un n_18_0) := u_ldIT f_l3_eq (s_iload (i := .iload_n 3) (len := 1) hq_18 (by decide +kernel) rfl (.inr ⟨3, rfl, rfl, rfl⟩) : e_Sn 18 0 (o_load e_okI 3 1)) t_18_1
noncomputable def e_tb_18 : e_X := (e_lf 0 (e_un n_18_0))
theorem e_tk_18 : e_Tb 18 e_tb_18 := (e_lfT t_18_0)
theorem hq_14 : (e_ml[14]?).map (·.2.1) = some prog_3_method_15_code := rfl
theorem ho_14 : (e_ml[14]?).map (·.1.cls) = some "Plateroomprinter$Engine" := rfl
theorem hr_14 : (e_ml[14]?).map (·.2.2.2) = some (some .int) := rfl
noncomputable def n_14_285 : e_Y := u_retI
theorem t_14_285 : e_Sn 14 285 (e_un n_14_285) := u_retIT (s_iret hq_14 hr_14 (by decide +kernel) : e_Sn 14 285 (o_ret e_okI))
noncomputable def n_14_282 : e_Y := u_callV 2 18 8 27 6 n_18_0 n_14_285
theorem t_14_282 : e_Sn 14 282 (e_un n_14_282) := u_callVT rfl (s_callV (ci := 2) (C := er_2) (T := et_2) (N := 19) (index := 180) hq_14 ho_14 hy_18 hp_18 hc_18 hi_18 hd_18 (List.mem_of_getElem? (i := 881) (by decide +kernel)) hs_18 (List.mem_of_getElem? (i := 11) (by decide +kernel)) rfl (by decide +kernel) rfl : e_Sn 14 282 (o_callV (e_s1 2 18 8) 6 285)) t_18_0 t_14_285
noncomputable def n_14_281 : e_Y := u_push (.inl 2147483649) n_14_282
theorem t_14_281 : e_Sn 14 281 (e_un n_14_281) := u_pushT (s_iconst (n := (1)) hq_14 (by decide +kernel) rfl ⟨by decide +kernel, by decide +kernel⟩ : e_Sn 14 281 (o_push (.inl 2147483649) 282)) t_14_282
noncomputable def n_14_280 : e_Y := u_ald 0 (u_old (o_ald e_fcs 281) n_14_281) n_14_281
theorem t_14_280 : e_Sn 14 280 (e_un n_14_280) := u_aldT (s_iald hq_14 (by decide +kernel) rfl : e_Sn 14 280 (o_ald e_fcs 281)) t_14_281
noncomputable def n_14_279 : e_Y := u_push (.inl 2147483648) n_14_280
theorem t_14_279 : e_Sn 14 279 (e_un n_14_279) := u_pushT (s_iconst (n := (0)) hq_14 (by decide +kernel) rfl ⟨by decide +kernel, by decide +kernel⟩ : e_Sn 14 279 (o_push (.inl 2147483648) 280)) t_14_280
noncomputable def n_14_276 : e_Y := u_getf 2 3 (u_old (o_getf (e_f1 2 3) 279) n_14_279) n_14_279
theorem t_14_276 : e_Sn 14 276 (e_un n_14_276) := u_getfT (s_getf (C := er_2) (T := et_2) (N := 19) (ref := "Plateroomprinter$Engine") (index := 15) (ci := 2) (k := 3) hq_14 ho_14 ⟨rfl, by decide, ei_2, (List.mem_of_getElem? (i := 619) (by decide +kernel)), .inl rfl⟩ (by decide +kernel) rfl : e_Sn 14 276 (o_getf (e_f1 2 3) 279)) t_14_279
noncomputable def n_14_275 : e_Y := u_ld f_okA f_l0 n_14_276
theorem t_14_275 : e_Sn 14 275 (e_un n_14_275) := u_ldAT f_l0_eq (s_aload (i := .aload_n 0) (len := 1) hq_14 (by decide +kernel) rfl (.inr ⟨0, rfl, rfl, rfl⟩) : e_Sn 14 275 (o_load e_okR 0 276)) t_14_276
noncomputable def n_14_274 : e_Y := u_push (.inl 2147483649) n_14_275
theorem t_14_274 : e_Sn 14 274 (e_un n_14_274) := u_pushT (s_iconst (n := (1)) hq_14 (by decide +kernel) rfl ⟨by decide +kernel, by decide +kernel⟩ : e_Sn 14 274 (o_push (.inl 2147483649) 275)) t_14_275
noncomputable def n_14_273 : e_Y := u_push (.inl 2147483649) n_14_274
theorem t_14_273 : e_Sn 14 273 (e_un n_14_273) := u_pushT (s_iconst (n := (1)) hq_14 (by decide +kernel) rfl ⟨by decide +kernel, by decide +kernel⟩ : e_Sn 14 273 (o_push (.inl 2147483649) 274)) t_14_274
noncomputable def n_14_272 : e_Y := u_push (.inl 2147483649) n_14_273
theorem t_14_272 : e_Sn 14 272 (e_un n_14_272) := u_pushT (s_iconst (n := (1)) hq_14 (by decide +kernel) rfl ⟨by decide +kernel, by decide +kernel⟩ : e_Sn 14 272 (o_push (.inl 2147483649) 273)) t_14_273
noncomputable def n_14_271 : e_Y := u_ld f_okA f_l0 n_14_272
theorem t_14_271 : e_Sn 14 271 (e_un n_14_271) := u_ldAT f_l0_eq (s_aload (i := .aload_n 0) (len := 1) hq_14 (by decide +kernel) rfl (.inr ⟨0, rfl, rfl, rfl⟩) : e_Sn 14 271 (o_load e_okR 0 272)) t_14_272
noncomputable def n_14_264 : e_Y := u_jmp y_le (u_old2 (o_cgt 267 271) 267 (u_at 267) n_14_271) (u_at 267) n_14_271
theorem t_14_264 : e_Sn 14 264 (e_un n_14_264) := u_cgtT rfl (s_cle (off := (7)) hq_14 (by decide +kernel) rfl rfl : e_Sn 14 264 (o_cgt 267 271)) u_atT t_14_271
noncomputable def n_14_262 : e_Y := u_push (.inl 2147483747) n_14_264
theorem t_14_262 : e_Sn 14 262 (e_un n_14_262) := u_pushT (s_bipush (n := (99)) hq_14 (by decide +kernel) rfl ⟨by decide +kernel, by decide +kernel⟩ : e_Sn 14 262 (o_push (.inl 2147483747) 264)) t_14_264
noncomputable def n_14_261 : e_Y := u_ald 0 (u_old (o_ald e_fcs 262) n_14_262) n_14_262
theorem t_14_261 : e_Sn 14 261 (e_un n_14_261) := u_aldT (s_iald hq_14 (by decide +kernel) rfl : e_Sn 14 261 (o_ald e_fcs 262)) t_14_262
noncomputable def n_14_260 : e_Y := u_push (.inl 2147483648) n_14_261
theorem t_14_260 : e_Sn 14 260 (e_un n_14_260) := u_pushT (s_iconst (n := (0)) hq_14 (by decide +kernel) rfl ⟨by decide +kernel, by decide +kernel⟩ : e_Sn 14 260 (o_push (.inl 2147483648) 261)) t_14_261
noncomputable def n_14_257 : e_Y := u_getf 2 3 (u_old (o_getf (e_f1 2 3) 260) n_14_260) n_14_260
theorem t_14_257 : e_Sn 14 257 (e_un n_14_257) := u_getfT (s_getf (C := er_2) (T := et_2) (N := 19) (ref := "Plateroomprinter$Engine") (index := 15) (ci := 2) (k := 3) hq_14 ho_14 ⟨rfl, by decide, ei_2, (List.mem_of_getElem? (i := 619) (by decide +kernel)), .inl rfl⟩ (by decide +kernel) rfl : e_Sn 14 257 (o_getf (e_f1 2 3) 260)) t_14_260
noncomputable def n_14_256 : e_Y := u_ld f_okA f_l0 n_14_257
theorem t_14_256 : e_Sn 14 256 (e_un n_14_256) := u_ldAT f_l0_eq (s_aload (i := .aload_n 0) (len := 1) hq_14 (by decide +kernel) rfl (.inr ⟨0, rfl, rfl, rfl⟩) : e_Sn 14 256 (o_load e_okR 0 257)) t_14_257
noncomputable def n_14_253 : e_Y := u_if y_ge0 (u_old2 (o_iflt 267 256) 267 (u_at 267) n_14_256) (u_at 267) n_14_256
theorem t_14_253 : e_Sn 14 253 (e_un n_14_253) := u_ifltT rfl (s_iflt (off := (14)) hq_14 (by decide +kernel) rfl rfl : e_Sn 14 253 (o_iflt 267 256)) u_atT t_14_256
noncomputable def n_14_252 : e_Y := u_ald 0 (u_old (o_ald e_fcs 253) n_14_253) n_14_253
theorem t_14_252 : e_Sn 14 252 (e_un n_14_252) := u_aldT (s_iald hq_14 (by decide +kernel) rfl : e_Sn 14 252 (o_ald e_fcs 253)) t_14_253
noncomputable def n_14_251 : e_Y := u_push (.inl 2147483648) n_14_252
theorem t_14_251 : e_Sn 14 251 (e_un n_14_251) := u_pushT (s_iconst (n := (0)) hq_14 (by decide +kernel) rfl ⟨by decide +kernel, by decide +kernel⟩ : e_Sn 14 251 (o_push (.inl 2147483648) 252)) t_14_252
noncomputable def n_14_248 : e_Y := u_getf 2 3 (u_old (o_getf (e_f1 2 3) 251) n_14_251) n_14_251
theorem t_14_248 : e_Sn 14 248 (e_un n_14_248) := u_getfT (s_getf (C := er_2) (T := et_2) (N := 19) (ref := "Plateroomprinter$Engine") (index := 15) (ci := 2) (k := 3) hq_14 ho_14 ⟨rfl, by decide, ei_2, (List.mem_of_getElem? (i := 619) (by decide +kernel)), .inl rfl⟩ (by decide +kernel) rfl : e_Sn 14 248 (o_getf (e_f1 2 3) 251)) t_14_251
noncomputable def n_14_247 : e_Y := u_ld f_okA f_l0 n_14_248
theorem t_14_247 : e_Sn 14 247 (e_un n_14_247) := u_ldAT f_l0_eq (s_aload (i := .aload_n 0) (len := 1) hq_14 (by decide +kernel) rfl (.inr ⟨0, rfl, rfl, rfl⟩) : e_Sn 14 247 (o_load e_okR 0 248)) t_14_248
noncomputable def n_14_1 : e_Y := u_tab (o_switch 2147483657 [60, 72, 74, 86, 97, 119, 155, 172, 202, 247, 286] 324)
theorem t_14_1 : e_Sn 14 1 (e_un n_14_1) := u_tabT (s_switch (dflt := (323)) (low := (9)) (hi := (19)) (offs := #[(59), (71), (73), (85), (96), (118), (154), (171), (201), (246), (285)]) (len := 59) hq_14 (by decide +kernel) rfl rfl rfl rfl : e_Sn 14 1 (o_switch 2147483657 [60, 72, 74, 86, 97, 119, 155, 172, 202, 247, 286] 324))
noncomputable def n_14_0 : e_Y := u_ld f_okI f_l1 n_14_1
theorem t_14_0 : e_Sn 14 0 (e_un n_14_0) := u_ldIT f_l1_eq (s_iload (i := .iload_n 1) (len := 1) hq_14 (by decide +kernel) rfl (.inr ⟨1, rfl, rfl, rfl⟩) : e_Sn 14 0 (o_load e_okI 1 1)) t_14_1
noncomputable def e_tb_14 : e_X := (e_br 247 (e_lf 0 (e_un n_14_0)) (e_lf 247 (e_un n_14_247)))
theorem e_tk_14 : e_Tb 14 e_tb_14 := (e_brT (e_lfT t_14_0) (e_lfT t_14_247))
theorem hq_31 : (e_ml[31]?).map (·.2.1) = some prog_5_method_7_code := rfl
theorem ho_31 : (e_ml[31]?).map (·.1.cls) = some "Plateroomprinter$Items" := rfl
theorem hr_31 : (e_ml[31]?).map (·.2.2.2) = some (some .int) := rfl
noncomputable def n_31_22 : e_Y := u_retI
theorem t_31_22 : e_Sn 31 22 (e_un n_31_22) := u_retIT (s_iret hq_31 hr_31 (by decide +kernel) : e_Sn 31 22 (o_ret e_okI))
noncomputable def n_31_18 : e_Y := n_31_22
theorem t_31_18 : e_Sn 31 18 (e_un n_31_18) := u_gotoT (s_goto (off := (4)) hq_31 (by decide +kernel) rfl : e_Sn 31 18 (o_goto 22)) t_31_22
noncomputable def n_31_17 : e_Y := u_ald 0 (u_old (o_ald e_fcs 18) n_31_18) n_31_18
theorem t_31_17 : e_Sn 31 17 (e_un n_31_17) := u_aldT (s_iald hq_31 (by decide +kernel) rfl : e_Sn 31 17 (o_ald e_fcs 18)) t_31_18
noncomputable def n_31_16 : e_Y := u_ld f_okI f_l1 n_31_17
theorem t_31_16 : e_Sn 31 16 (e_un n_31_16) := u_ldIT f_l1_eq (s_iload (i := .iload_n 1) (len := 1) hq_31 (by decide +kernel) rfl (.inr ⟨1, rfl, rfl, rfl⟩) : e_Sn 31 16 (o_load e_okI 1 17)) t_31_17
noncomputable def n_31_13 : e_Y := u_getf 4 3 (u_old (o_getf (e_f1 4 3) 16) n_31_16) n_31_16
theorem t_31_13 : e_Sn 31 13 (e_un n_31_13) := u_getfT (s_getf (C := er_4) (T := et_4) (N := 5) (ref := "Plateroomprinter$Items") (index := 28) (ci := 4) (k := 3) hq_31 ho_31 ⟨rfl, by decide, ei_4, (List.mem_of_getElem? (i := 234) (by decide +kernel)), .inl rfl⟩ (by decide +kernel) rfl : e_Sn 31 13 (o_getf (e_f1 4 3) 16)) t_31_16
noncomputable def n_31_12 : e_Y := u_ld f_okA f_l0 n_31_13
theorem t_31_12 : e_Sn 31 12 (e_un n_31_12) := u_ldAT f_l0_eq (s_aload (i := .aload_n 0) (len := 1) hq_31 (by decide +kernel) rfl (.inr ⟨0, rfl, rfl, rfl⟩) : e_Sn 31 12 (o_load e_okR 0 13)) t_31_13
noncomputable def n_31_9 : e_Y := u_jmp y_ge (u_old2 (o_clt 12 21) 12 n_31_12 (u_at 21)) n_31_12 (u_at 21)
theorem t_31_9 : e_Sn 31 9 (e_un n_31_9) := u_cltT rfl (s_cge (off := (12)) hq_31 (by decide +kernel) rfl rfl : e_Sn 31 9 (o_clt 12 21)) t_31_12 u_atT
noncomputable def n_31_6 : e_Y := u_getf 4 0 (u_old (o_getf (e_f1 4 0) 9) n_31_9) n_31_9
theorem t_31_6 : e_Sn 31 6 (e_un n_31_6) := u_getfT (s_getf (C := er_4) (T := et_4) (N := 5) (ref := "Plateroomprinter$Items") (index := 15) (ci := 4) (k := 0) hq_31 ho_31 ⟨rfl, by decide, ei_4, (List.mem_of_getElem? (i := 231) (by decide +kernel)), .inl rfl⟩ (by decide +kernel) rfl : e_Sn 31 6 (o_getf (e_f1 4 0) 9)) t_31_9
noncomputable def n_31_5 : e_Y := u_ld f_okA f_l0 n_31_6
theorem t_31_5 : e_Sn 31 5 (e_un n_31_5) := u_ldAT f_l0_eq (s_aload (i := .aload_n 0) (len := 1) hq_31 (by decide +kernel) rfl (.inr ⟨0, rfl, rfl, rfl⟩) : e_Sn 31 5 (o_load e_okR 0 6)) t_31_6
noncomputable def n_31_4 : e_Y := u_ld f_okI f_l1 n_31_5
theorem t_31_4 : e_Sn 31 4 (e_un n_31_4) := u_ldIT f_l1_eq (s_iload (i := .iload_n 1) (len := 1) hq_31 (by decide +kernel) rfl (.inr ⟨1, rfl, rfl, rfl⟩) : e_Sn 31 4 (o_load e_okI 1 5)) t_31_5
noncomputable def n_31_1 : e_Y := u_if y_ge0 (u_old2 (o_iflt 21 4) 21 (u_at 21) n_31_4) (u_at 21) n_31_4
theorem t_31_1 : e_Sn 31 1 (e_un n_31_1) := u_ifltT rfl (s_iflt (off := (20)) hq_31 (by decide +kernel) rfl rfl : e_Sn 31 1 (o_iflt 21 4)) u_atT t_31_4
noncomputable def n_31_0 : e_Y := u_ld f_okI f_l1 n_31_1
theorem t_31_0 : e_Sn 31 0 (e_un n_31_0) := u_ldIT f_l1_eq (s_iload (i := .iload_n 1) (len := 1) hq_31 (by decide +kernel) rfl (.inr ⟨1, rfl, rfl, rfl⟩) : e_Sn 31 0 (o_load e_okI 1 1)) t_31_1
noncomputable def e_tb_31 : e_X := (e_lf 0 (e_un n_31_0))
theorem e_tk_31 : e_Tb 31 e_tb_31 := (e_lfT t_31_0)
theorem hq_33 : (e_ml[33]?).map (·.2.1) = some prog_5_method_5_code := rfl
theorem ho_33 : (e_ml[33]?).map (·.1.cls) = some "Plateroomprinter$Items" := rfl
theorem hr_33 : (e_ml[33]?).map (·.2.2.2) = some (some .int) := rfl
noncomputable def n_33_22 : e_Y := u_retI
theorem t_33_22 : e_Sn 33 22 (e_un n_33_22) := u_retIT (s_iret hq_33 hr_33 (by decide +kernel) : e_Sn 33 22 (o_ret e_okI))
noncomputable def n_33_18 : e_Y := n_33_22
theorem t_33_18 : e_Sn 33 18 (e_un n_33_18) := u_gotoT (s_goto (off := (4)) hq_33 (by decide +kernel) rfl : e_Sn 33 18 (o_goto 22)) t_33_22
noncomputable def n_33_17 : e_Y := u_ald 0 (u_old (o_ald e_fcs 18) n_33_18) n_33_18
theorem t_33_17 : e_Sn 33 17 (e_un n_33_17) := u_aldT (s_iald hq_33 (by decide +kernel) rfl : e_Sn 33 17 (o_ald e_fcs 18)) t_33_18
noncomputable def n_33_16 : e_Y := u_ld f_okI f_l1 n_33_17
theorem t_33_16 : e_Sn 33 16 (e_un n_33_16) := u_ldIT f_l1_eq (s_iload (i := .iload_n 1) (len := 1) hq_33 (by decide +kernel) rfl (.inr ⟨1, rfl, rfl, rfl⟩) : e_Sn 33 16 (o_load e_okI 1 17)) t_33_17
noncomputable def n_33_13 : e_Y := u_getf 4 1 (u_old (o_getf (e_f1 4 1) 16) n_33_16) n_33_16
theorem t_33_13 : e_Sn 33 13 (e_un n_33_13) := u_getfT (s_getf (C := er_4) (T := et_4) (N := 5) (ref := "Plateroomprinter$Items") (index := 21) (ci := 4) (k := 1) hq_33 ho_33 ⟨rfl, by decide, ei_4, (List.mem_of_getElem? (i := 232) (by decide +kernel)), .inl rfl⟩ (by decide +kernel) rfl : e_Sn 33 13 (o_getf (e_f1 4 1) 16)) t_33_16
noncomputable def n_33_12 : e_Y := u_ld f_okA f_l0 n_33_13
theorem t_33_12 : e_Sn 33 12 (e_un n_33_12) := u_ldAT f_l0_eq (s_aload (i := .aload_n 0) (len := 1) hq_33 (by decide +kernel) rfl (.inr ⟨0, rfl, rfl, rfl⟩) : e_Sn 33 12 (o_load e_okR 0 13)) t_33_13
noncomputable def n_33_9 : e_Y := u_jmp y_ge (u_old2 (o_clt 12 21) 12 n_33_12 (u_at 21)) n_33_12 (u_at 21)
theorem t_33_9 : e_Sn 33 9 (e_un n_33_9) := u_cltT rfl (s_cge (off := (12)) hq_33 (by decide +kernel) rfl rfl : e_Sn 33 9 (o_clt 12 21)) t_33_12 u_atT
noncomputable def n_33_6 : e_Y := u_getf 4 0 (u_old (o_getf (e_f1 4 0) 9) n_33_9) n_33_9
theorem t_33_6 : e_Sn 33 6 (e_un n_33_6) := u_getfT (s_getf (C := er_4) (T := et_4) (N := 5) (ref := "Plateroomprinter$Items") (index := 15) (ci := 4) (k := 0) hq_33 ho_33 ⟨rfl, by decide, ei_4, (List.mem_of_getElem? (i := 231) (by decide +kernel)), .inl rfl⟩ (by decide +kernel) rfl : e_Sn 33 6 (o_getf (e_f1 4 0) 9)) t_33_9
noncomputable def n_33_5 : e_Y := u_ld f_okA f_l0 n_33_6
theorem t_33_5 : e_Sn 33 5 (e_un n_33_5) := u_ldAT f_l0_eq (s_aload (i := .aload_n 0) (len := 1) hq_33 (by decide +kernel) rfl (.inr ⟨0, rfl, rfl, rfl⟩) : e_Sn 33 5 (o_load e_okR 0 6)) t_33_6
noncomputable def n_33_4 : e_Y := u_ld f_okI f_l1 n_33_5
theorem t_33_4 : e_Sn 33 4 (e_un n_33_4) := u_ldIT f_l1_eq (s_iload (i := .iload_n 1) (len := 1) hq_33 (by decide +kernel) rfl (.inr ⟨1, rfl, rfl, rfl⟩) : e_Sn 33 4 (o_load e_okI 1 5)) t_33_5
noncomputable def n_33_1 : e_Y := u_if y_ge0 (u_old2 (o_iflt 21 4) 21 (u_at 21) n_33_4) (u_at 21) n_33_4
theorem t_33_1 : e_Sn 33 1 (e_un n_33_1) := u_ifltT rfl (s_iflt (off := (20)) hq_33 (by decide +kernel) rfl rfl : e_Sn 33 1 (o_iflt 21 4)) u_atT t_33_4
noncomputable def n_33_0 : e_Y := u_ld f_okI f_l1 n_33_1
theorem t_33_0 : e_Sn 33 0 (e_un n_33_0) := u_ldIT f_l1_eq (s_iload (i := .iload_n 1) (len := 1) hq_33 (by decide +kernel) rfl (.inr ⟨1, rfl, rfl, rfl⟩) : e_Sn 33 0 (o_load e_okI 1 1)) t_33_1
noncomputable def e_tb_33 : e_X := (e_lf 0 (e_un n_33_0))
theorem e_tk_33 : e_Tb 33 e_tb_33 := (e_lfT t_33_0)
theorem hq_34 : (e_ml[34]?).map (·.2.1) = some prog_5_method_6_code := rfl
theorem ho_34 : (e_ml[34]?).map (·.1.cls) = some "Plateroomprinter$Items" := rfl
theorem hr_34 : (e_ml[34]?).map (·.2.2.2) = some (some .int) := rfl
noncomputable def n_34_22 : e_Y := u_retI
theorem t_34_22 : e_Sn 34 22 (e_un n_34_22) := u_retIT (s_iret hq_34 hr_34 (by decide +kernel) : e_Sn 34 22 (o_ret e_okI))
noncomputable def n_34_18 : e_Y := n_34_22
theorem t_34_18 : e_Sn 34 18 (e_un n_34_18) := u_gotoT (s_goto (off := (4)) hq_34 (by decide +kernel) rfl : e_Sn 34 18 (o_goto 22)) t_34_22
noncomputable def n_34_17 : e_Y := u_ald 0 (u_old (o_ald e_fcs 18) n_34_18) n_34_18
theorem t_34_17 : e_Sn 34 17 (e_un n_34_17) := u_aldT (s_iald hq_34 (by decide +kernel) rfl : e_Sn 34 17 (o_ald e_fcs 18)) t_34_18
noncomputable def n_34_16 : e_Y := u_ld f_okI f_l1 n_34_17
theorem t_34_16 : e_Sn 34 16 (e_un n_34_16) := u_ldIT f_l1_eq (s_iload (i := .iload_n 1) (len := 1) hq_34 (by decide +kernel) rfl (.inr ⟨1, rfl, rfl, rfl⟩) : e_Sn 34 16 (o_load e_okI 1 17)) t_34_17
noncomputable def n_34_13 : e_Y := u_getf 4 2 (u_old (o_getf (e_f1 4 2) 16) n_34_16) n_34_16
theorem t_34_13 : e_Sn 34 13 (e_un n_34_13) := u_getfT (s_getf (C := er_4) (T := et_4) (N := 5) (ref := "Plateroomprinter$Items") (index := 25) (ci := 4) (k := 2) hq_34 ho_34 ⟨rfl, by decide, ei_4, (List.mem_of_getElem? (i := 233) (by decide +kernel)), .inl rfl⟩ (by decide +kernel) rfl : e_Sn 34 13 (o_getf (e_f1 4 2) 16)) t_34_16
noncomputable def n_34_12 : e_Y := u_ld f_okA f_l0 n_34_13
theorem t_34_12 : e_Sn 34 12 (e_un n_34_12) := u_ldAT f_l0_eq (s_aload (i := .aload_n 0) (len := 1) hq_34 (by decide +kernel) rfl (.inr ⟨0, rfl, rfl, rfl⟩) : e_Sn 34 12 (o_load e_okR 0 13)) t_34_13
noncomputable def n_34_9 : e_Y := u_jmp y_ge (u_old2 (o_clt 12 21) 12 n_34_12 (u_at 21)) n_34_12 (u_at 21)
theorem t_34_9 : e_Sn 34 9 (e_un n_34_9) := u_cltT rfl (s_cge (off := (12)) hq_34 (by decide +kernel) rfl rfl : e_Sn 34 9 (o_clt 12 21)) t_34_12 u_atT
noncomputable def n_34_6 : e_Y := u_getf 4 0 (u_old (o_getf (e_f1 4 0) 9) n_34_9) n_34_9
theorem t_34_6 : e_Sn 34 6 (e_un n_34_6) := u_getfT (s_getf (C := er_4) (T := et_4) (N := 5) (ref := "Plateroomprinter$Items") (index := 15) (ci := 4) (k := 0) hq_34 ho_34 ⟨rfl, by decide, ei_4, (List.mem_of_getElem? (i := 231) (by decide +kernel)), .inl rfl⟩ (by decide +kernel) rfl : e_Sn 34 6 (o_getf (e_f1 4 0) 9)) t_34_9
noncomputable def n_34_5 : e_Y := u_ld f_okA f_l0 n_34_6
theorem t_34_5 : e_Sn 34 5 (e_un n_34_5) := u_ldAT f_l0_eq (s_aload (i := .aload_n 0) (len := 1) hq_34 (by decide +kernel) rfl (.inr ⟨0, rfl, rfl, rfl⟩) : e_Sn 34 5 (o_load e_okR 0 6)) t_34_6
noncomputable def n_34_4 : e_Y := u_ld f_okI f_l1 n_34_5
theorem t_34_4 : e_Sn 34 4 (e_un n_34_4) := u_ldIT f_l1_eq (s_iload (i := .iload_n 1) (len := 1) hq_34 (by decide +kernel) rfl (.inr ⟨1, rfl, rfl, rfl⟩) : e_Sn 34 4 (o_load e_okI 1 5)) t_34_5
noncomputable def n_34_1 : e_Y := u_if y_ge0 (u_old2 (o_iflt 21 4) 21 (u_at 21) n_34_4) (u_at 21) n_34_4
theorem t_34_1 : e_Sn 34 1 (e_un n_34_1) := u_ifltT rfl (s_iflt (off := (20)) hq_34 (by decide +kernel) rfl rfl : e_Sn 34 1 (o_iflt 21 4)) u_atT t_34_4
noncomputable def n_34_0 : e_Y := u_ld f_okI f_l1 n_34_1
theorem t_34_0 : e_Sn 34 0 (e_un n_34_0) := u_ldIT f_l1_eq (s_iload (i := .iload_n 1) (len := 1) hq_34 (by decide +kernel) rfl (.inr ⟨1, rfl, rfl, rfl⟩) : e_Sn 34 0 (o_load e_okI 1 1)) t_34_1
noncomputable def e_tb_34 : e_X := (e_lf 0 (e_un n_34_0))
theorem e_tk_34 : e_Tb 34 e_tb_34 := (e_lfT t_34_0)
theorem hq_23 : (e_ml[23]?).map (·.2.1) = some prog_3_method_13_code := rfl
theorem ho_23 : (e_ml[23]?).map (·.1.cls) = some "Plateroomprinter$Engine" := rfl
theorem hr_23 : (e_ml[23]?).map (·.2.2.2) = some (some .int) := rfl
noncomputable def n_23_155 : e_Y := u_retI
theorem t_23_155 : e_Sn 23 155 (e_un n_23_155) := u_retIT (s_iret hq_23 hr_23 (by decide +kernel) : e_Sn 23 155 (o_ret e_okI))
noncomputable def n_23_154 : e_Y := u_push (.inl 2147483648) n_23_155
theorem t_23_154 : e_Sn 23 154 (e_un n_23_154) := u_pushT (s_iconst (n := (0)) hq_23 (by decide +kernel) rfl ⟨by decide +kernel, by decide +kernel⟩ : e_Sn 23 154 (o_push (.inl 2147483648) 155)) t_23_155
noncomputable def n_23_151 : e_Y := (u_at 38)
theorem t_23_151 : e_Sn 23 151 (e_un n_23_151) := u_gotoT (s_goto (off := (-113)) hq_23 (by decide +kernel) rfl : e_Sn 23 151 (o_goto 38)) u_atT
noncomputable def n_23_148 : e_Y := u_inc f_l4 f_s4 1 n_23_151
theorem t_23_148 : e_Sn 23 148 (e_un n_23_148) := u_incT f_l4_eq (fun _ _ _ => f_s4_eq) (s_iinc (zz := (1)) hq_23 (by decide +kernel) rfl (by decide +kernel) ⟨by decide, by decide⟩ : e_Sn 23 148 (o_iinc 4 1 151)) t_23_151
noncomputable def n_23_145 : e_Y := u_old (o_putf (e_f1 4 4) e_okI 148) n_23_148
theorem t_23_145 : e_Sn 23 145 (e_un n_23_145) := u_oldT (s_putf (ty0 := ey_4) (ok := e_okI) (C := er_4) (T := et_4) (N := 5) (ref := "Plateroomprinter$Items") (index := 162) (ci := 4) (k := 4) hq_23 ho_23 ⟨rfl, by decide, ei_4, (List.mem_of_getElem? (i := 236) (by decide +kernel)), .inl rfl⟩ eo_4 en_4 e_oksI (.inl rfl) (by decide +kernel) rfl : e_Sn 23 145 (o_putf (e_f1 4 4) e_okI 148)) t_23_148 (e_cg_putf (e_f1 4 4) e_okI)
noncomputable def n_23_143 : e_Y := u_ld f_okI f_l6 n_23_145
theorem t_23_143 : e_Sn 23 143 (e_un n_23_143) := u_ldIT f_l6_eq (s_iload (i := .iload 6) (len := 2) hq_23 (by decide +kernel) rfl (.inl ⟨rfl, rfl⟩) : e_Sn 23 143 (o_load e_okI 6 145)) t_23_145
noncomputable def n_23_142 : e_Y := u_ld f_okA f_l3 n_23_143
theorem t_23_142 : e_Sn 23 142 (e_un n_23_142) := u_ldAT f_l3_eq (s_aload (i := .aload_n 3) (len := 1) hq_23 (by decide +kernel) rfl (.inr ⟨3, rfl, rfl, rfl⟩) : e_Sn 23 142 (o_load e_okR 3 143)) t_23_143
noncomputable def n_23_141 : e_Y := u_old (o_ast 0 e_okI 142) n_23_142
theorem t_23_141 : e_Sn 23 141 (e_un n_23_141) := u_oldT (s_iast hq_23 (by decide +kernel) rfl : e_Sn 23 141 (o_ast 0 e_okI 142)) t_23_142 (e_cg_ast 0 e_okI)
noncomputable def n_23_138 : e_Y := u_callV 4 31 2 21 2 n_31_0 n_23_141
theorem t_23_138 : e_Sn 23 138 (e_un n_23_138) := u_callVT rfl (s_callV (ci := 4) (C := er_4) (T := et_4) (N := 5) (index := 141) hq_23 ho_23 hy_31 hp_31 hc_31 hi_31 hd_31 (List.mem_of_getElem? (i := 837) (by decide +kernel)) hs_31 (List.mem_of_getElem? (i := 839) (by decide +kernel)) rfl (by decide +kernel) rfl : e_Sn 23 138 (o_callV (e_s1 4 31 2) 2 141)) t_31_0 t_23_141
noncomputable def n_23_136 : e_Y := u_ld f_okI f_l6 n_23_138
theorem t_23_136 : e_Sn 23 136 (e_un n_23_136) := u_ldIT f_l6_eq (s_iload (i := .iload 6) (len := 2) hq_23 (by decide +kernel) rfl (.inl ⟨rfl, rfl⟩) : e_Sn 23 136 (o_load e_okI 6 138)) t_23_138
noncomputable def n_23_135 : e_Y := u_ld f_okA f_l3 n_23_136
theorem t_23_135 : e_Sn 23 135 (e_un n_23_135) := u_ldAT f_l3_eq (s_aload (i := .aload_n 3) (len := 1) hq_23 (by decide +kernel) rfl (.inr ⟨3, rfl, rfl, rfl⟩) : e_Sn 23 135 (o_load e_okR 3 136)) t_23_136
noncomputable def n_23_134 : e_Y := u_bin a_isub (u_old (o_isub 135) n_23_135) n_23_135
theorem t_23_134 : e_Sn 23 134 (e_un n_23_134) := u_isubT (s_isub hq_23 (by decide +kernel) rfl : e_Sn 23 134 (o_isub 135)) t_23_135
noncomputable def n_23_132 : e_Y := u_ld f_okI f_l4 n_23_134
theorem t_23_132 : e_Sn 23 132 (e_un n_23_132) := u_ldIT f_l4_eq (s_iload (i := .iload 4) (len := 2) hq_23 (by decide +kernel) rfl (.inl ⟨rfl, rfl⟩) : e_Sn 23 132 (o_load e_okI 4 134)) t_23_134
noncomputable def n_23_131 : e_Y := u_bin a_isub (u_old (o_isub 132) n_23_132) n_23_132
theorem t_23_131 : e_Sn 23 131 (e_un n_23_131) := u_isubT (s_isub hq_23 (by decide +kernel) rfl : e_Sn 23 131 (o_isub 132)) t_23_132
noncomputable def n_23_130 : e_Y := u_push (.inl 2147483649) n_23_131
theorem t_23_130 : e_Sn 23 130 (e_un n_23_130) := u_pushT (s_iconst (n := (1)) hq_23 (by decide +kernel) rfl ⟨by decide +kernel, by decide +kernel⟩ : e_Sn 23 130 (o_push (.inl 2147483649) 131)) t_23_131
noncomputable def n_23_129 : e_Y := u_ld f_okI f_l2 n_23_130
theorem t_23_129 : e_Sn 23 129 (e_un n_23_129) := u_ldIT f_l2_eq (s_iload (i := .iload_n 2) (len := 1) hq_23 (by decide +kernel) rfl (.inr ⟨2, rfl, rfl, rfl⟩) : e_Sn 23 129 (o_load e_okI 2 130)) t_23_130
noncomputable def n_23_126 : e_Y := u_getf 2 4 (u_old (o_getf (e_f1 2 4) 129) n_23_129) n_23_129
theorem t_23_126 : e_Sn 23 126 (e_un n_23_126) := u_getfT (s_getf (C := er_2) (T := et_2) (N := 19) (ref := "Plateroomprinter$Engine") (index := 18) (ci := 2) (k := 4) hq_23 ho_23 ⟨rfl, by decide, ei_2, (List.mem_of_getElem? (i := 621) (by decide +kernel)), .inl rfl⟩ (by decide +kernel) rfl : e_Sn 23 126 (o_getf (e_f1 2 4) 129)) t_23_129
noncomputable def n_23_125 : e_Y := u_ld f_okA f_l0 n_23_126
theorem t_23_125 : e_Sn 23 125 (e_un n_23_125) := u_ldAT f_l0_eq (s_aload (i := .aload_n 0) (len := 1) hq_23 (by decide +kernel) rfl (.inr ⟨0, rfl, rfl, rfl⟩) : e_Sn 23 125 (o_load e_okR 0 126)) t_23_126
noncomputable def n_23_124 : e_Y := u_old (o_ast 0 e_okI 125) n_23_125
theorem t_23_124 : e_Sn 23 124 (e_un n_23_124) := u_oldT (s_iast hq_23 (by decide +kernel) rfl : e_Sn 23 124 (o_ast 0 e_okI 125)) t_23_125 (e_cg_ast 0 e_okI)
noncomputable def n_23_121 : e_Y := u_callV 4 34 2 21 2 n_34_0 n_23_124
theorem t_23_121 : e_Sn 23 121 (e_un n_23_121) := u_callVT rfl (s_callV (ci := 4) (C := er_4) (T := et_4) (N := 5) (index := 138) hq_23 ho_23 hy_34 hp_34 hc_34 hi_34 hd_34 (List.mem_of_getElem? (i := 833) (by decide +kernel)) hs_34 (List.mem_of_getElem? (i := 835) (by decide +kernel)) rfl (by decide +kernel) rfl : e_Sn 23 121 (o_callV (e_s1 4 34 2) 2 124)) t_34_0 t_23_124
noncomputable def n_23_119 : e_Y := u_ld f_okI f_l6 n_23_121
theorem t_23_119 : e_Sn 23 119 (e_un n_23_119) := u_ldIT f_l6_eq (s_iload (i := .iload 6) (len := 2) hq_23 (by decide +kernel) rfl (.inl ⟨rfl, rfl⟩) : e_Sn 23 119 (o_load e_okI 6 121)) t_23_121
noncomputable def n_23_118 : e_Y := u_ld f_okA f_l3 n_23_119
theorem t_23_118 : e_Sn 23 118 (e_un n_23_118) := u_ldAT f_l3_eq (s_aload (i := .aload_n 3) (len := 1) hq_23 (by decide +kernel) rfl (.inr ⟨3, rfl, rfl, rfl⟩) : e_Sn 23 118 (o_load e_okR 3 119)) t_23_119
noncomputable def n_23_117 : e_Y := u_bin a_isub (u_old (o_isub 118) n_23_118) n_23_118
theorem t_23_117 : e_Sn 23 117 (e_un n_23_117) := u_isubT (s_isub hq_23 (by decide +kernel) rfl : e_Sn 23 117 (o_isub 118)) t_23_118
noncomputable def n_23_115 : e_Y := u_ld f_okI f_l4 n_23_117
theorem t_23_115 : e_Sn 23 115 (e_un n_23_115) := u_ldIT f_l4_eq (s_iload (i := .iload 4) (len := 2) hq_23 (by decide +kernel) rfl (.inl ⟨rfl, rfl⟩) : e_Sn 23 115 (o_load e_okI 4 117)) t_23_117
noncomputable def n_23_114 : e_Y := u_bin a_isub (u_old (o_isub 115) n_23_115) n_23_115
theorem t_23_114 : e_Sn 23 114 (e_un n_23_114) := u_isubT (s_isub hq_23 (by decide +kernel) rfl : e_Sn 23 114 (o_isub 115)) t_23_115
noncomputable def n_23_113 : e_Y := u_push (.inl 2147483649) n_23_114
theorem t_23_113 : e_Sn 23 113 (e_un n_23_113) := u_pushT (s_iconst (n := (1)) hq_23 (by decide +kernel) rfl ⟨by decide +kernel, by decide +kernel⟩ : e_Sn 23 113 (o_push (.inl 2147483649) 114)) t_23_114
noncomputable def n_23_112 : e_Y := u_ld f_okI f_l2 n_23_113
theorem t_23_112 : e_Sn 23 112 (e_un n_23_112) := u_ldIT f_l2_eq (s_iload (i := .iload_n 2) (len := 1) hq_23 (by decide +kernel) rfl (.inr ⟨2, rfl, rfl, rfl⟩) : e_Sn 23 112 (o_load e_okI 2 113)) t_23_113
noncomputable def n_23_109 : e_Y := u_getf 2 3 (u_old (o_getf (e_f1 2 3) 112) n_23_112) n_23_112
theorem t_23_109 : e_Sn 23 109 (e_un n_23_109) := u_getfT (s_getf (C := er_2) (T := et_2) (N := 19) (ref := "Plateroomprinter$Engine") (index := 15) (ci := 2) (k := 3) hq_23 ho_23 ⟨rfl, by decide, ei_2, (List.mem_of_getElem? (i := 619) (by decide +kernel)), .inl rfl⟩ (by decide +kernel) rfl : e_Sn 23 109 (o_getf (e_f1 2 3) 112)) t_23_112
noncomputable def n_23_108 : e_Y := u_ld f_okA f_l0 n_23_109
theorem t_23_108 : e_Sn 23 108 (e_un n_23_108) := u_ldAT f_l0_eq (s_aload (i := .aload_n 0) (len := 1) hq_23 (by decide +kernel) rfl (.inr ⟨0, rfl, rfl, rfl⟩) : e_Sn 23 108 (o_load e_okR 0 109)) t_23_109
noncomputable def n_23_107 : e_Y := u_old (o_ast 0 e_okI 108) n_23_108
theorem t_23_107 : e_Sn 23 107 (e_un n_23_107) := u_oldT (s_iast hq_23 (by decide +kernel) rfl : e_Sn 23 107 (o_ast 0 e_okI 108)) t_23_108 (e_cg_ast 0 e_okI)
noncomputable def n_23_104 : e_Y := u_callV 4 33 2 21 2 n_33_0 n_23_107
theorem t_23_104 : e_Sn 23 104 (e_un n_23_104) := u_callVT rfl (s_callV (ci := 4) (C := er_4) (T := et_4) (N := 5) (index := 135) hq_23 ho_23 hy_33 hp_33 hc_33 hi_33 hd_33 (List.mem_of_getElem? (i := 829) (by decide +kernel)) hs_33 (List.mem_of_getElem? (i := 831) (by decide +kernel)) rfl (by decide +kernel) rfl : e_Sn 23 104 (o_callV (e_s1 4 33 2) 2 107)) t_33_0 t_23_107
noncomputable def n_23_102 : e_Y := u_ld f_okI f_l6 n_23_104
theorem t_23_102 : e_Sn 23 102 (e_un n_23_102) := u_ldIT f_l6_eq (s_iload (i := .iload 6) (len := 2) hq_23 (by decide +kernel) rfl (.inl ⟨rfl, rfl⟩) : e_Sn 23 102 (o_load e_okI 6 104)) t_23_104
noncomputable def n_23_101 : e_Y := u_ld f_okA f_l3 n_23_102
theorem t_23_101 : e_Sn 23 101 (e_un n_23_101) := u_ldAT f_l3_eq (s_aload (i := .aload_n 3) (len := 1) hq_23 (by decide +kernel) rfl (.inr ⟨3, rfl, rfl, rfl⟩) : e_Sn 23 101 (o_load e_okR 3 102)) t_23_102
noncomputable def n_23_100 : e_Y := u_bin a_isub (u_old (o_isub 101) n_23_101) n_23_101
theorem t_23_100 : e_Sn 23 100 (e_un n_23_100) := u_isubT (s_isub hq_23 (by decide +kernel) rfl : e_Sn 23 100 (o_isub 101)) t_23_101
noncomputable def n_23_98 : e_Y := u_ld f_okI f_l4 n_23_100
theorem t_23_98 : e_Sn 23 98 (e_un n_23_98) := u_ldIT f_l4_eq (s_iload (i := .iload 4) (len := 2) hq_23 (by decide +kernel) rfl (.inl ⟨rfl, rfl⟩) : e_Sn 23 98 (o_load e_okI 4 100)) t_23_100
noncomputable def n_23_97 : e_Y := u_bin a_isub (u_old (o_isub 98) n_23_98) n_23_98
theorem t_23_97 : e_Sn 23 97 (e_un n_23_97) := u_isubT (s_isub hq_23 (by decide +kernel) rfl : e_Sn 23 97 (o_isub 98)) t_23_98
noncomputable def n_23_96 : e_Y := u_push (.inl 2147483649) n_23_97
theorem t_23_96 : e_Sn 23 96 (e_un n_23_96) := u_pushT (s_iconst (n := (1)) hq_23 (by decide +kernel) rfl ⟨by decide +kernel, by decide +kernel⟩ : e_Sn 23 96 (o_push (.inl 2147483649) 97)) t_23_97
noncomputable def n_23_95 : e_Y := u_ld f_okI f_l2 n_23_96
theorem t_23_95 : e_Sn 23 95 (e_un n_23_95) := u_ldIT f_l2_eq (s_iload (i := .iload_n 2) (len := 1) hq_23 (by decide +kernel) rfl (.inr ⟨2, rfl, rfl, rfl⟩) : e_Sn 23 95 (o_load e_okI 2 96)) t_23_96
noncomputable def n_23_92 : e_Y := u_getf 2 2 (u_old (o_getf (e_f1 2 2) 95) n_23_95) n_23_95
theorem t_23_92 : e_Sn 23 92 (e_un n_23_92) := u_getfT (s_getf (C := er_2) (T := et_2) (N := 19) (ref := "Plateroomprinter$Engine") (index := 11) (ci := 2) (k := 2) hq_23 ho_23 ⟨rfl, by decide, ei_2, (List.mem_of_getElem? (i := 618) (by decide +kernel)), .inl rfl⟩ (by decide +kernel) rfl : e_Sn 23 92 (o_getf (e_f1 2 2) 95)) t_23_95
noncomputable def n_23_91 : e_Y := u_ld f_okA f_l0 n_23_92
theorem t_23_91 : e_Sn 23 91 (e_un n_23_91) := u_ldAT f_l0_eq (s_aload (i := .aload_n 0) (len := 1) hq_23 (by decide +kernel) rfl (.inr ⟨0, rfl, rfl, rfl⟩) : e_Sn 23 91 (o_load e_okR 0 92)) t_23_92
noncomputable def n_23_86 : e_Y := u_jmp y_ne (u_old2 (o_ceq 91 89) 91 n_23_91 (u_at 89)) n_23_91 (u_at 89)
theorem t_23_86 : e_Sn 23 86 (e_un n_23_86) := u_ceqT rfl (s_ceq (off := (5)) hq_23 (by decide +kernel) rfl rfl : e_Sn 23 86 (o_ceq 91 89)) t_23_91 u_atT
noncomputable def n_23_85 : e_Y := u_bin a_isub (u_old (o_isub 86) n_23_86) n_23_86
theorem t_23_85 : e_Sn 23 85 (e_un n_23_85) := u_isubT (s_isub hq_23 (by decide +kernel) rfl : e_Sn 23 85 (o_isub 86)) t_23_86
noncomputable def n_23_84 : e_Y := u_push (.inl 2147483649) n_23_85
theorem t_23_84 : e_Sn 23 84 (e_un n_23_84) := u_pushT (s_iconst (n := (1)) hq_23 (by decide +kernel) rfl ⟨by decide +kernel, by decide +kernel⟩ : e_Sn 23 84 (o_push (.inl 2147483649) 85)) t_23_85
noncomputable def n_23_82 : e_Y := u_ld f_okI f_l5 n_23_84
theorem t_23_82 : e_Sn 23 82 (e_un n_23_82) := u_ldIT f_l5_eq (s_iload (i := .iload 5) (len := 2) hq_23 (by decide +kernel) rfl (.inl ⟨rfl, rfl⟩) : e_Sn 23 82 (o_load e_okI 5 84)) t_23_84
noncomputable def n_23_79 : e_Y := u_callV 4 33 2 21 2 n_33_0 n_23_82
theorem t_23_79 : e_Sn 23 79 (e_un n_23_79) := u_callVT rfl (s_callV (ci := 4) (C := er_4) (T := et_4) (N := 5) (index := 135) hq_23 ho_23 hy_33 hp_33 hc_33 hi_33 hd_33 (List.mem_of_getElem? (i := 829) (by decide +kernel)) hs_33 (List.mem_of_getElem? (i := 831) (by decide +kernel)) rfl (by decide +kernel) rfl : e_Sn 23 79 (o_callV (e_s1 4 33 2) 2 82)) t_33_0 t_23_82
noncomputable def n_23_77 : e_Y := u_ld f_okI f_l6 n_23_79
theorem t_23_77 : e_Sn 23 77 (e_un n_23_77) := u_ldIT f_l6_eq (s_iload (i := .iload 6) (len := 2) hq_23 (by decide +kernel) rfl (.inl ⟨rfl, rfl⟩) : e_Sn 23 77 (o_load e_okI 6 79)) t_23_79
noncomputable def n_23_76 : e_Y := u_ld f_okA f_l3 n_23_77
theorem t_23_76 : e_Sn 23 76 (e_un n_23_76) := u_ldAT f_l3_eq (s_aload (i := .aload_n 3) (len := 1) hq_23 (by decide +kernel) rfl (.inr ⟨3, rfl, rfl, rfl⟩) : e_Sn 23 76 (o_load e_okR 3 77)) t_23_77
noncomputable def n_23_73 : e_Y := u_jmp y_ne (u_old2 (o_ceq 91 76) 91 n_23_91 n_23_76) n_23_91 n_23_76
theorem t_23_73 : e_Sn 23 73 (e_un n_23_73) := u_ceqT rfl (s_ceq (off := (18)) hq_23 (by decide +kernel) rfl rfl : e_Sn 23 73 (o_ceq 91 76)) t_23_91 t_23_76
noncomputable def n_23_72 : e_Y := u_push (.inl 2147483652) n_23_73
theorem t_23_72 : e_Sn 23 72 (e_un n_23_72) := u_pushT (s_iconst (n := (4)) hq_23 (by decide +kernel) rfl ⟨by decide +kernel, by decide +kernel⟩ : e_Sn 23 72 (o_push (.inl 2147483652) 73)) t_23_73
noncomputable def n_23_70 : e_Y := u_ld f_okI f_l5 n_23_72
theorem t_23_70 : e_Sn 23 70 (e_un n_23_70) := u_ldIT f_l5_eq (s_iload (i := .iload 5) (len := 2) hq_23 (by decide +kernel) rfl (.inl ⟨rfl, rfl⟩) : e_Sn 23 70 (o_load e_okI 5 72)) t_23_72
noncomputable def n_23_65 : e_Y := u_if y_ge0 (u_old2 (o_iflt 68 70) 68 (u_at 68) n_23_70) (u_at 68) n_23_70
theorem t_23_65 : e_Sn 23 65 (e_un n_23_65) := u_ifltT rfl (s_ifge (off := (5)) hq_23 (by decide +kernel) rfl rfl : e_Sn 23 65 (o_iflt 68 70)) u_atT t_23_70
noncomputable def n_23_63 : e_Y := u_ld f_okI f_l6 n_23_65
theorem t_23_63 : e_Sn 23 63 (e_un n_23_63) := u_ldIT f_l6_eq (s_iload (i := .iload 6) (len := 2) hq_23 (by decide +kernel) rfl (.inl ⟨rfl, rfl⟩) : e_Sn 23 63 (o_load e_okI 6 65)) t_23_65
noncomputable def n_23_61 : e_Y := u_st f_okI f_s6 n_23_63
theorem t_23_61 : e_Sn 23 61 (e_un n_23_61) := u_stIT (fun _ _ _ => f_s6_eq) (s_istore (i := .istore 6) (len := 2) hq_23 (by decide +kernel) rfl (.inl ⟨rfl, rfl⟩) : e_Sn 23 61 (o_store e_okI 6 63)) t_23_63
noncomputable def n_23_60 : e_Y := u_bin a_isub (u_old (o_isub 61) n_23_61) n_23_61
theorem t_23_60 : e_Sn 23 60 (e_un n_23_60) := u_isubT (s_isub hq_23 (by decide +kernel) rfl : e_Sn 23 60 (o_isub 61)) t_23_61
noncomputable def n_23_59 : e_Y := u_push (.inl 2147483649) n_23_60
theorem t_23_59 : e_Sn 23 59 (e_un n_23_59) := u_pushT (s_iconst (n := (1)) hq_23 (by decide +kernel) rfl ⟨by decide +kernel, by decide +kernel⟩ : e_Sn 23 59 (o_push (.inl 2147483649) 60)) t_23_60
noncomputable def n_23_56 : e_Y := u_getf 4 4 (u_old (o_getf (e_f1 4 4) 59) n_23_59) n_23_59
theorem t_23_56 : e_Sn 23 56 (e_un n_23_56) := u_getfT (s_getf (C := er_4) (T := et_4) (N := 5) (ref := "Plateroomprinter$Items") (index := 162) (ci := 4) (k := 4) hq_23 ho_23 ⟨rfl, by decide, ei_4, (List.mem_of_getElem? (i := 236) (by decide +kernel)), .inl rfl⟩ (by decide +kernel) rfl : e_Sn 23 56 (o_getf (e_f1 4 4) 59)) t_23_59
noncomputable def n_23_55 : e_Y := u_ld f_okA f_l3 n_23_56
theorem t_23_55 : e_Sn 23 55 (e_un n_23_55) := u_ldAT f_l3_eq (s_aload (i := .aload_n 3) (len := 1) hq_23 (by decide +kernel) rfl (.inr ⟨3, rfl, rfl, rfl⟩) : e_Sn 23 55 (o_load e_okR 3 56)) t_23_56
noncomputable def n_23_53 : e_Y := u_st f_okI f_s5 n_23_55
theorem t_23_53 : e_Sn 23 53 (e_un n_23_53) := u_stIT (fun _ _ _ => f_s5_eq) (s_istore (i := .istore 5) (len := 2) hq_23 (by decide +kernel) rfl (.inl ⟨rfl, rfl⟩) : e_Sn 23 53 (o_store e_okI 5 55)) t_23_55
noncomputable def n_23_52 : e_Y := u_bin a_iand (u_old (o_bin Nat.land 53) n_23_53) n_23_53
theorem t_23_52 : e_Sn 23 52 (e_un n_23_52) := u_iandT (s_iand hq_23 (by decide +kernel) rfl : e_Sn 23 52 (o_bin Nat.land 53)) t_23_53
noncomputable def n_23_50 : e_Y := u_push (.inl 2147483663) n_23_52
theorem t_23_50 : e_Sn 23 50 (e_un n_23_50) := u_pushT (s_bipush (n := (15)) hq_23 (by decide +kernel) rfl ⟨by decide +kernel, by decide +kernel⟩ : e_Sn 23 50 (o_push (.inl 2147483663) 52)) t_23_52
noncomputable def n_23_49 : e_Y := u_old (o_ishr 50) n_23_50
theorem t_23_49 : e_Sn 23 49 (e_un n_23_49) := u_oldT (s_ishr hq_23 (by decide +kernel) rfl : e_Sn 23 49 (o_ishr 50)) t_23_50 e_cg_ishr
noncomputable def n_23_48 : e_Y := u_bin a_imul (u_old (o_imul 49) n_23_49) n_23_49
theorem t_23_48 : e_Sn 23 48 (e_un n_23_48) := u_imulT (s_imul hq_23 (by decide +kernel) rfl : e_Sn 23 48 (o_imul 49)) t_23_49
noncomputable def n_23_46 : e_Y := u_ld f_okI f_l4 n_23_48
theorem t_23_46 : e_Sn 23 46 (e_un n_23_46) := u_ldIT f_l4_eq (s_iload (i := .iload 4) (len := 2) hq_23 (by decide +kernel) rfl (.inl ⟨rfl, rfl⟩) : e_Sn 23 46 (o_load e_okI 4 48)) t_23_48
noncomputable def n_23_45 : e_Y := u_push (.inl 2147483652) n_23_46
theorem t_23_45 : e_Sn 23 45 (e_un n_23_45) := u_pushT (s_iconst (n := (4)) hq_23 (by decide +kernel) rfl ⟨by decide +kernel, by decide +kernel⟩ : e_Sn 23 45 (o_push (.inl 2147483652) 46)) t_23_46
noncomputable def n_23_44 : e_Y := u_ld f_okI f_l1 n_23_45
theorem t_23_44 : e_Sn 23 44 (e_un n_23_44) := u_ldIT f_l1_eq (s_iload (i := .iload_n 1) (len := 1) hq_23 (by decide +kernel) rfl (.inr ⟨1, rfl, rfl, rfl⟩) : e_Sn 23 44 (o_load e_okI 1 45)) t_23_45
noncomputable def n_23_41 : e_Y := u_jmp y_ge (u_old2 (o_clt 44 154) 44 n_23_44 n_23_154) n_23_44 n_23_154
theorem t_23_41 : e_Sn 23 41 (e_un n_23_41) := u_cltT rfl (s_cge (off := (113)) hq_23 (by decide +kernel) rfl rfl : e_Sn 23 41 (o_clt 44 154)) t_23_44 t_23_154
noncomputable def n_23_40 : e_Y := u_ld f_okI f_l2 n_23_41
theorem t_23_40 : e_Sn 23 40 (e_un n_23_40) := u_ldIT f_l2_eq (s_iload (i := .iload_n 2) (len := 1) hq_23 (by decide +kernel) rfl (.inr ⟨2, rfl, rfl, rfl⟩) : e_Sn 23 40 (o_load e_okI 2 41)) t_23_41
noncomputable def n_23_38 : e_Y := u_ld f_okI f_l4 n_23_40
theorem t_23_38 : e_Sn 23 38 (e_un n_23_38) := u_ldIT f_l4_eq (s_iload (i := .iload 4) (len := 2) hq_23 (by decide +kernel) rfl (.inl ⟨rfl, rfl⟩) : e_Sn 23 38 (o_load e_okI 4 40)) t_23_40
noncomputable def n_23_36 : e_Y := u_st f_okI f_s4 n_23_38
theorem t_23_36 : e_Sn 23 36 (e_un n_23_36) := u_stIT (fun _ _ _ => f_s4_eq) (s_istore (i := .istore 4) (len := 2) hq_23 (by decide +kernel) rfl (.inl ⟨rfl, rfl⟩) : e_Sn 23 36 (o_store e_okI 4 38)) t_23_38
noncomputable def n_23_35 : e_Y := u_push (.inl 2147483648) n_23_36
theorem t_23_35 : e_Sn 23 35 (e_un n_23_35) := u_pushT (s_iconst (n := (0)) hq_23 (by decide +kernel) rfl ⟨by decide +kernel, by decide +kernel⟩ : e_Sn 23 35 (o_push (.inl 2147483648) 36)) t_23_36
noncomputable def n_23_34 : e_Y := u_st f_okA f_s3 n_23_35
theorem t_23_34 : e_Sn 23 34 (e_un n_23_34) := u_stAT (fun _ _ _ => f_s3_eq) (s_astore (i := .astore_n 3) (len := 1) hq_23 (by decide +kernel) rfl (.inr ⟨3, rfl, rfl, rfl⟩) : e_Sn 23 34 (o_store e_okR 3 35)) t_23_35
noncomputable def n_23_31 : e_Y := u_getf 11 0 (u_old (o_getf (e_f1 11 0) 34) n_23_34) n_23_34
theorem t_23_31 : e_Sn 23 31 (e_un n_23_31) := u_getfT (s_getf (C := er_11) (T := et_11) (N := 15) (ref := "Plateroomprinter$World") (index := 93) (ci := 11) (k := 0) hq_23 ho_23 ⟨rfl, by decide, ei_11, (List.mem_of_getElem? (i := 460) (by decide +kernel)), .inl rfl⟩ (by decide +kernel) rfl : e_Sn 23 31 (o_getf (e_f1 11 0) 34)) t_23_34
noncomputable def n_23_28 : e_Y := u_getf 2 0 (u_old (o_getf (e_f1 2 0) 31) n_23_31) n_23_31
theorem t_23_28 : e_Sn 23 28 (e_un n_23_28) := u_getfT (s_getf (C := er_2) (T := et_2) (N := 19) (ref := "Plateroomprinter$Engine") (index := 45) (ci := 2) (k := 0) hq_23 ho_23 ⟨rfl, by decide, ei_2, (List.mem_of_getElem? (i := 616) (by decide +kernel)), .inl rfl⟩ (by decide +kernel) rfl : e_Sn 23 28 (o_getf (e_f1 2 0) 31)) t_23_31
noncomputable def n_23_27 : e_Y := u_ld f_okA f_l0 n_23_28
theorem t_23_27 : e_Sn 23 27 (e_un n_23_27) := u_ldAT f_l0_eq (s_aload (i := .aload_n 0) (len := 1) hq_23 (by decide +kernel) rfl (.inr ⟨0, rfl, rfl, rfl⟩) : e_Sn 23 27 (o_load e_okR 0 28)) t_23_28
noncomputable def n_23_24 : e_Y := (u_at 4)
theorem t_23_24 : e_Sn 23 24 (e_un n_23_24) := u_gotoT (s_goto (off := (-20)) hq_23 (by decide +kernel) rfl : e_Sn 23 24 (o_goto 4)) u_atT
noncomputable def n_23_21 : e_Y := u_inc f_l3 f_s3 1 n_23_24
theorem t_23_21 : e_Sn 23 21 (e_un n_23_21) := u_incT f_l3_eq (fun _ _ _ => f_s3_eq) (s_iinc (zz := (1)) hq_23 (by decide +kernel) rfl (by decide +kernel) ⟨by decide, by decide⟩ : e_Sn 23 21 (o_iinc 3 1 24)) t_23_24
noncomputable def n_23_18 : e_Y := u_inc f_l2 f_s2 1 n_23_21
theorem t_23_18 : e_Sn 23 18 (e_un n_23_18) := u_incT f_l2_eq (fun _ _ _ => f_s2_eq) (s_iinc (zz := (1)) hq_23 (by decide +kernel) rfl (by decide +kernel) ⟨by decide, by decide⟩ : e_Sn 23 18 (o_iinc 2 1 21)) t_23_21
noncomputable def n_23_15 : e_Y := u_if y_ne0 (u_old2 (o_ifeq 21 18) 21 n_23_21 n_23_18) n_23_21 n_23_18
theorem t_23_15 : e_Sn 23 15 (e_un n_23_15) := u_ifeqT rfl (s_ifeq (off := (6)) hq_23 (by decide +kernel) rfl rfl : e_Sn 23 15 (o_ifeq 21 18)) t_23_21 t_23_18
noncomputable def n_23_14 : e_Y := u_old (o_ishr 15) n_23_15
theorem t_23_14 : e_Sn 23 14 (e_un n_23_14) := u_oldT (s_ishr hq_23 (by decide +kernel) rfl : e_Sn 23 14 (o_ishr 15)) t_23_15 e_cg_ishr
noncomputable def n_23_13 : e_Y := u_bin a_imul (u_old (o_imul 14) n_23_14) n_23_14
theorem t_23_13 : e_Sn 23 13 (e_un n_23_13) := u_imulT (s_imul hq_23 (by decide +kernel) rfl : e_Sn 23 13 (o_imul 14)) t_23_14
noncomputable def n_23_12 : e_Y := u_ld f_okI f_l3 n_23_13
theorem t_23_12 : e_Sn 23 12 (e_un n_23_12) := u_ldIT f_l3_eq (s_iload (i := .iload_n 3) (len := 1) hq_23 (by decide +kernel) rfl (.inr ⟨3, rfl, rfl, rfl⟩) : e_Sn 23 12 (o_load e_okI 3 13)) t_23_13
noncomputable def n_23_11 : e_Y := u_push (.inl 2147483652) n_23_12
theorem t_23_11 : e_Sn 23 11 (e_un n_23_11) := u_pushT (s_iconst (n := (4)) hq_23 (by decide +kernel) rfl ⟨by decide +kernel, by decide +kernel⟩ : e_Sn 23 11 (o_push (.inl 2147483652) 12)) t_23_12
noncomputable def n_23_10 : e_Y := u_ld f_okI f_l1 n_23_11
theorem t_23_10 : e_Sn 23 10 (e_un n_23_10) := u_ldIT f_l1_eq (s_iload (i := .iload_n 1) (len := 1) hq_23 (by decide +kernel) rfl (.inr ⟨1, rfl, rfl, rfl⟩) : e_Sn 23 10 (o_load e_okI 1 11)) t_23_11
noncomputable def n_23_7 : e_Y := u_jmp y_ge (u_old2 (o_clt 10 27) 10 n_23_10 n_23_27) n_23_10 n_23_27
theorem t_23_7 : e_Sn 23 7 (e_un n_23_7) := u_cltT rfl (s_cge (off := (20)) hq_23 (by decide +kernel) rfl rfl : e_Sn 23 7 (o_clt 10 27)) t_23_10 t_23_27
noncomputable def n_23_5 : e_Y := u_push (.inl 2147483654) n_23_7
theorem t_23_5 : e_Sn 23 5 (e_un n_23_5) := u_pushT (s_bipush (n := (6)) hq_23 (by decide +kernel) rfl ⟨by decide +kernel, by decide +kernel⟩ : e_Sn 23 5 (o_push (.inl 2147483654) 7)) t_23_7
noncomputable def n_23_4 : e_Y := u_ld f_okI f_l3 n_23_5
theorem t_23_4 : e_Sn 23 4 (e_un n_23_4) := u_ldIT f_l3_eq (s_iload (i := .iload_n 3) (len := 1) hq_23 (by decide +kernel) rfl (.inr ⟨3, rfl, rfl, rfl⟩) : e_Sn 23 4 (o_load e_okI 3 5)) t_23_5
noncomputable def n_23_3 : e_Y := u_st f_okI f_s3 n_23_4
theorem t_23_3 : e_Sn 23 3 (e_un n_23_3) := u_stIT (fun _ _ _ => f_s3_eq) (s_istore (i := .istore_n 3) (len := 1) hq_23 (by decide +kernel) rfl (.inr ⟨3, rfl, rfl, rfl⟩) : e_Sn 23 3 (o_store e_okI 3 4)) t_23_4
noncomputable def n_23_2 : e_Y := u_push (.inl 2147483648) n_23_3
theorem t_23_2 : e_Sn 23 2 (e_un n_23_2) := u_pushT (s_iconst (n := (0)) hq_23 (by decide +kernel) rfl ⟨by decide +kernel, by decide +kernel⟩ : e_Sn 23 2 (o_push (.inl 2147483648) 3)) t_23_3
noncomputable def n_23_1 : e_Y := u_st f_okI f_s2 n_23_2
theorem t_23_1 : e_Sn 23 1 (e_un n_23_1) := u_stIT (fun _ _ _ => f_s2_eq) (s_istore (i := .istore_n 2) (len := 1) hq_23 (by decide +kernel) rfl (.inr ⟨2, rfl, rfl, rfl⟩) : e_Sn 23 1 (o_store e_okI 2 2)) t_23_2
noncomputable def n_23_0 : e_Y := u_push (.inl 2147483648) n_23_1
theorem t_23_0 : e_Sn 23 0 (e_un n_23_0) := u_pushT (s_iconst (n := (0)) hq_23 (by decide +kernel) rfl ⟨by decide +kernel, by decide +kernel⟩ : e_Sn 23 0 (o_push (.inl 2147483648) 1)) t_23_1
noncomputable def e_tb_23 : e_X := (e_br 4 (e_lf 0 (e_un n_23_0)) (e_br 38 (e_lf 4 (e_un n_23_4)) (e_lf 38 (e_un n_23_38))))
theorem e_tk_23 : e_Tb 23 e_tb_23 := (e_brT (e_lfT t_23_0) (e_brT (e_lfT t_23_4) (e_lfT t_23_38)))
theorem hq_15 : (e_ml[15]?).map (·.2.1) = some prog_3_method_12_code := rfl
theorem ho_15 : (e_ml[15]?).map (·.1.cls) = some "Plateroomprinter$Engine" := rfl
theorem hr_15 : (e_ml[15]?).map (·.2.2.2) = some (some .int) := rfl
noncomputable def n_15_85 : e_Y := u_retI
theorem t_15_85 : e_Sn 15 85 (e_un n_15_85) := u_retIT (s_iret hq_15 hr_15 (by decide +kernel) : e_Sn 15 85 (o_ret e_okI))
noncomputable def n_15_82 : e_Y := u_callV 2 14 2 21 2 n_14_0 n_15_85
theorem t_15_82 : e_Sn 15 82 (e_un n_15_82) := u_callVT rfl (s_callV (ci := 2) (C := er_2) (T := et_2) (N := 19) (index := 159) hq_15 ho_15 hy_14 hp_14 hc_14 hi_14 hd_14 (List.mem_of_getElem? (i := 868) (by decide +kernel)) hs_14 (List.mem_of_getElem? (i := 8) (by decide +kernel)) rfl (by decide +kernel) rfl : e_Sn 15 82 (o_callV (e_s1 2 14 2) 2 85)) t_14_0 t_15_85
noncomputable def n_15_81 : e_Y := u_ld f_okI f_l1 n_15_82
theorem t_15_81 : e_Sn 15 81 (e_un n_15_81) := u_ldIT f_l1_eq (s_iload (i := .iload_n 1) (len := 1) hq_15 (by decide +kernel) rfl (.inr ⟨1, rfl, rfl, rfl⟩) : e_Sn 15 81 (o_load e_okI 1 82)) t_15_82
noncomputable def n_15_80 : e_Y := u_ld f_okA f_l0 n_15_81
theorem t_15_80 : e_Sn 15 80 (e_un n_15_80) := u_ldAT f_l0_eq (s_aload (i := .aload_n 0) (len := 1) hq_15 (by decide +kernel) rfl (.inr ⟨0, rfl, rfl, rfl⟩) : e_Sn 15 80 (o_load e_okR 0 81)) t_15_81
noncomputable def n_15_57 : e_Y := u_jmp y_ge (u_old2 (o_clt 60 80) 60 (u_at 60) n_15_80) (u_at 60) n_15_80
theorem t_15_57 : e_Sn 15 57 (e_un n_15_57) := u_cltT rfl (s_cge (off := (23)) hq_15 (by decide +kernel) rfl rfl : e_Sn 15 57 (o_clt 60 80)) u_atT t_15_80
noncomputable def n_15_55 : e_Y := u_push (.inl 2147483657) n_15_57
theorem t_15_55 : e_Sn 15 55 (e_un n_15_55) := u_pushT (s_bipush (n := (9)) hq_15 (by decide +kernel) rfl ⟨by decide +kernel, by decide +kernel⟩ : e_Sn 15 55 (o_push (.inl 2147483657) 57)) t_15_57
noncomputable def n_15_54 : e_Y := u_ld f_okI f_l1 n_15_55
theorem t_15_54 : e_Sn 15 54 (e_un n_15_54) := u_ldIT f_l1_eq (s_iload (i := .iload_n 1) (len := 1) hq_15 (by decide +kernel) rfl (.inr ⟨1, rfl, rfl, rfl⟩) : e_Sn 15 54 (o_load e_okI 1 55)) t_15_55
noncomputable def n_15_53 : e_Y := u_retI
theorem t_15_53 : e_Sn 15 53 (e_un n_15_53) := u_retIT (s_iret hq_15 hr_15 (by decide +kernel) : e_Sn 15 53 (o_ret e_okI))
noncomputable def n_15_52 : e_Y := u_push (.inl 2147483648) n_15_53
theorem t_15_52 : e_Sn 15 52 (e_un n_15_52) := u_pushT (s_iconst (n := (0)) hq_15 (by decide +kernel) rfl ⟨by decide +kernel, by decide +kernel⟩ : e_Sn 15 52 (o_push (.inl 2147483648) 53)) t_15_53
noncomputable def n_15_49 : e_Y := u_old (o_putf (e_f1 2 16) e_okI 52) n_15_52
theorem t_15_49 : e_Sn 15 49 (e_un n_15_49) := u_oldT (s_putf (ty0 := ey_2) (ok := e_okI) (C := er_2) (T := et_2) (N := 19) (ref := "Plateroomprinter$Engine") (index := 109) (ci := 2) (k := 16) hq_15 ho_15 ⟨rfl, by decide, ei_2, (List.mem_of_getElem? (i := 634) (by decide +kernel)), .inl rfl⟩ eo_2 en_2 e_oksI (.inl rfl) (by decide +kernel) rfl : e_Sn 15 49 (o_putf (e_f1 2 16) e_okI 52)) t_15_52 (e_cg_putf (e_f1 2 16) e_okI)
noncomputable def n_15_48 : e_Y := u_ld f_okI f_l1 n_15_49
theorem t_15_48 : e_Sn 15 48 (e_un n_15_48) := u_ldIT f_l1_eq (s_iload (i := .iload_n 1) (len := 1) hq_15 (by decide +kernel) rfl (.inr ⟨1, rfl, rfl, rfl⟩) : e_Sn 15 48 (o_load e_okI 1 49)) t_15_49
noncomputable def n_15_47 : e_Y := u_ld f_okA f_l0 n_15_48
theorem t_15_47 : e_Sn 15 47 (e_un n_15_47) := u_ldAT f_l0_eq (s_aload (i := .aload_n 0) (len := 1) hq_15 (by decide +kernel) rfl (.inr ⟨0, rfl, rfl, rfl⟩) : e_Sn 15 47 (o_load e_okR 0 48)) t_15_48
noncomputable def n_15_44 : e_Y := u_jmp y_le (u_old2 (o_cgt 47 54) 47 n_15_47 n_15_54) n_15_47 n_15_54
theorem t_15_44 : e_Sn 15 44 (e_un n_15_44) := u_cgtT rfl (s_cle (off := (10)) hq_15 (by decide +kernel) rfl rfl : e_Sn 15 44 (o_cgt 47 54)) t_15_47 t_15_54
noncomputable def n_15_42 : e_Y := u_push (.inl 2147483668) n_15_44
theorem t_15_42 : e_Sn 15 42 (e_un n_15_42) := u_pushT (s_bipush (n := (20)) hq_15 (by decide +kernel) rfl ⟨by decide +kernel, by decide +kernel⟩ : e_Sn 15 42 (o_push (.inl 2147483668) 44)) t_15_44
noncomputable def n_15_41 : e_Y := u_ld f_okI f_l1 n_15_42
theorem t_15_41 : e_Sn 15 41 (e_un n_15_41) := u_ldIT f_l1_eq (s_iload (i := .iload_n 1) (len := 1) hq_15 (by decide +kernel) rfl (.inr ⟨1, rfl, rfl, rfl⟩) : e_Sn 15 41 (o_load e_okI 1 42)) t_15_42
noncomputable def n_15_40 : e_Y := u_old (o_ast 0 e_okI 41) n_15_41
theorem t_15_40 : e_Sn 15 40 (e_un n_15_40) := u_oldT (s_iast hq_15 (by decide +kernel) rfl : e_Sn 15 40 (o_ast 0 e_okI 41)) t_15_41 (e_cg_ast 0 e_okI)
noncomputable def n_15_39 : e_Y := u_bin a_iadd (u_old (o_iadd 40) n_15_40) n_15_40
theorem t_15_39 : e_Sn 15 39 (e_un n_15_39) := u_iaddT (s_iadd hq_15 (by decide +kernel) rfl : e_Sn 15 39 (o_iadd 40)) t_15_40
noncomputable def n_15_38 : e_Y := u_push (.inl 2147483649) n_15_39
theorem t_15_38 : e_Sn 15 38 (e_un n_15_38) := u_pushT (s_iconst (n := (1)) hq_15 (by decide +kernel) rfl ⟨by decide +kernel, by decide +kernel⟩ : e_Sn 15 38 (o_push (.inl 2147483649) 39)) t_15_39
noncomputable def n_15_37 : e_Y := u_ald 0 (u_old (o_ald e_fcs 38) n_15_38) n_15_38
theorem t_15_37 : e_Sn 15 37 (e_un n_15_37) := u_aldT (s_iald hq_15 (by decide +kernel) rfl : e_Sn 15 37 (o_ald e_fcs 38)) t_15_38
noncomputable def n_15_36 : e_Y := u_old (o_dup2 37) n_15_37
theorem t_15_36 : e_Sn 15 36 (e_un n_15_36) := u_oldT (s_dup2 hq_15 (by decide +kernel) rfl : e_Sn 15 36 (o_dup2 37)) t_15_37 e_cg_dup2
noncomputable def n_15_35 : e_Y := u_ld f_okI f_l1 n_15_36
theorem t_15_35 : e_Sn 15 35 (e_un n_15_35) := u_ldIT f_l1_eq (s_iload (i := .iload_n 1) (len := 1) hq_15 (by decide +kernel) rfl (.inr ⟨1, rfl, rfl, rfl⟩) : e_Sn 15 35 (o_load e_okI 1 36)) t_15_36
noncomputable def n_15_32 : e_Y := u_getf 11 11 (u_old (o_getf (e_f1 11 11) 35) n_15_35) n_15_35
theorem t_15_32 : e_Sn 15 32 (e_un n_15_32) := u_getfT (s_getf (C := er_11) (T := et_11) (N := 15) (ref := "Plateroomprinter$World") (index := 153) (ci := 11) (k := 11) hq_15 ho_15 ⟨rfl, by decide, ei_11, (List.mem_of_getElem? (i := 492) (by decide +kernel)), .inl rfl⟩ (by decide +kernel) rfl : e_Sn 15 32 (o_getf (e_f1 11 11) 35)) t_15_35
noncomputable def n_15_29 : e_Y := u_getf 2 0 (u_old (o_getf (e_f1 2 0) 32) n_15_32) n_15_32
theorem t_15_29 : e_Sn 15 29 (e_un n_15_29) := u_getfT (s_getf (C := er_2) (T := et_2) (N := 19) (ref := "Plateroomprinter$Engine") (index := 45) (ci := 2) (k := 0) hq_15 ho_15 ⟨rfl, by decide, ei_2, (List.mem_of_getElem? (i := 616) (by decide +kernel)), .inl rfl⟩ (by decide +kernel) rfl : e_Sn 15 29 (o_getf (e_f1 2 0) 32)) t_15_32
noncomputable def n_15_28 : e_Y := u_ld f_okA f_l0 n_15_29
theorem t_15_28 : e_Sn 15 28 (e_un n_15_28) := u_ldAT f_l0_eq (s_aload (i := .aload_n 0) (len := 1) hq_15 (by decide +kernel) rfl (.inr ⟨0, rfl, rfl, rfl⟩) : e_Sn 15 28 (o_load e_okR 0 29)) t_15_29
noncomputable def n_15_23 : e_Y := u_if y_ne0 (u_old2 (o_ifeq 28 26) 28 n_15_28 (u_at 26)) n_15_28 (u_at 26)
theorem t_15_23 : e_Sn 15 23 (e_un n_15_23) := u_ifeqT rfl (s_ifeq (off := (5)) hq_15 (by decide +kernel) rfl rfl : e_Sn 15 23 (o_ifeq 28 26)) t_15_28 u_atT
noncomputable def n_15_22 : e_Y := u_ld f_okI f_l2 n_15_23
theorem t_15_22 : e_Sn 15 22 (e_un n_15_22) := u_ldIT f_l2_eq (s_iload (i := .iload_n 2) (len := 1) hq_15 (by decide +kernel) rfl (.inr ⟨2, rfl, rfl, rfl⟩) : e_Sn 15 22 (o_load e_okI 2 23)) t_15_23
noncomputable def n_15_21 : e_Y := u_st f_okI f_s2 n_15_22
theorem t_15_21 : e_Sn 15 21 (e_un n_15_21) := u_stIT (fun _ _ _ => f_s2_eq) (s_istore (i := .istore_n 2) (len := 1) hq_15 (by decide +kernel) rfl (.inr ⟨2, rfl, rfl, rfl⟩) : e_Sn 15 21 (o_store e_okI 2 22)) t_15_22
noncomputable def n_15_18 : e_Y := u_callV 2 23 7 26 2 n_23_0 n_15_21
theorem t_15_18 : e_Sn 15 18 (e_un n_15_18) := u_callVT rfl (s_callV (ci := 2) (C := er_2) (T := et_2) (N := 19) (index := 150) hq_15 ho_15 hy_23 hp_23 hc_23 hi_23 hd_23 (List.mem_of_getElem? (i := 857) (by decide +kernel)) hs_23 (List.mem_of_getElem? (i := 6) (by decide +kernel)) rfl (by decide +kernel) rfl : e_Sn 15 18 (o_callV (e_s1 2 23 7) 2 21)) t_23_0 t_15_21
noncomputable def n_15_17 : e_Y := u_ald 0 (u_old (o_ald e_fcs 18) n_15_18) n_15_18
theorem t_15_17 : e_Sn 15 17 (e_un n_15_17) := u_aldT (s_iald hq_15 (by decide +kernel) rfl : e_Sn 15 17 (o_ald e_fcs 18)) t_15_18
noncomputable def n_15_16 : e_Y := u_ld f_okI f_l1 n_15_17
theorem t_15_16 : e_Sn 15 16 (e_un n_15_16) := u_ldIT f_l1_eq (s_iload (i := .iload_n 1) (len := 1) hq_15 (by decide +kernel) rfl (.inr ⟨1, rfl, rfl, rfl⟩) : e_Sn 15 16 (o_load e_okI 1 17)) t_15_17
noncomputable def n_15_13 : e_Y := u_push (e_B 1) n_15_16
theorem t_15_13 : e_Sn 15 13 (e_un n_15_13) := u_pushT (s_gets (k := 1) (index := 147) (C := "Plateroomprinter$Engine") (f := "OPERANDS") (d := "[I") hq_15 ho_15 (List.mem_of_getElem? (i := 855) (by decide +kernel)) (by simp [e_sv]) (by decide +kernel) rfl : e_Sn 15 13 (o_push (e_B 1) 16)) t_15_16
noncomputable def n_15_12 : e_Y := u_ld f_okA f_l0 n_15_13
theorem t_15_12 : e_Sn 15 12 (e_un n_15_12) := u_ldAT f_l0_eq (s_aload (i := .aload_n 0) (len := 1) hq_15 (by decide +kernel) rfl (.inr ⟨0, rfl, rfl, rfl⟩) : e_Sn 15 12 (o_load e_okR 0 13)) t_15_13
noncomputable def n_15_7 : e_Y := u_jmp y_ge (u_old2 (o_clt 12 10) 12 n_15_12 (u_at 10)) n_15_12 (u_at 10)
theorem t_15_7 : e_Sn 15 7 (e_un n_15_7) := u_cltT rfl (s_clt (off := (5)) hq_15 (by decide +kernel) rfl rfl : e_Sn 15 7 (o_clt 12 10)) t_15_12 u_atT
noncomputable def n_15_5 : e_Y := u_push (.inl 2147483701) n_15_7
theorem t_15_5 : e_Sn 15 5 (e_un n_15_5) := u_pushT (s_bipush (n := (53)) hq_15 (by decide +kernel) rfl ⟨by decide +kernel, by decide +kernel⟩ : e_Sn 15 5 (o_push (.inl 2147483701) 7)) t_15_7
noncomputable def n_15_4 : e_Y := u_ld f_okI f_l1 n_15_5
theorem t_15_4 : e_Sn 15 4 (e_un n_15_4) := u_ldIT f_l1_eq (s_iload (i := .iload_n 1) (len := 1) hq_15 (by decide +kernel) rfl (.inr ⟨1, rfl, rfl, rfl⟩) : e_Sn 15 4 (o_load e_okI 1 5)) t_15_5
noncomputable def n_15_1 : e_Y := u_if y_ge0 (u_old2 (o_iflt 10 4) 10 (u_at 10) n_15_4) (u_at 10) n_15_4
theorem t_15_1 : e_Sn 15 1 (e_un n_15_1) := u_ifltT rfl (s_iflt (off := (9)) hq_15 (by decide +kernel) rfl rfl : e_Sn 15 1 (o_iflt 10 4)) u_atT t_15_4
noncomputable def n_15_0 : e_Y := u_ld f_okI f_l1 n_15_1
theorem t_15_0 : e_Sn 15 0 (e_un n_15_0) := u_ldIT f_l1_eq (s_iload (i := .iload_n 1) (len := 1) hq_15 (by decide +kernel) rfl (.inr ⟨1, rfl, rfl, rfl⟩) : e_Sn 15 0 (o_load e_okI 1 1)) t_15_1
noncomputable def e_tb_15 : e_X := (e_lf 0 (e_un n_15_0))
theorem e_tk_15 : e_Tb 15 e_tb_15 := (e_lfT t_15_0)
theorem hq_8 : (e_ml[8]?).map (·.2.1) = some prog_2_method_5_code := rfl
theorem ho_8 : (e_ml[8]?).map (·.1.cls) = some "Plateroomprinter$Code" := rfl
theorem hr_8 : (e_ml[8]?).map (·.2.2.2) = some (some .int) := rfl
noncomputable def n_8_66 : e_Y := (u_at 18)
theorem t_8_66 : e_Sn 8 66 (e_un n_8_66) := u_gotoT (s_goto (off := (-48)) hq_8 (by decide +kernel) rfl : e_Sn 8 66 (o_goto 18)) u_atT
noncomputable def n_8_63 : e_Y := u_inc f_l5 f_s5 1 n_8_66
theorem t_8_63 : e_Sn 8 63 (e_un n_8_63) := u_incT f_l5_eq (fun _ _ _ => f_s5_eq) (s_iinc (zz := (1)) hq_8 (by decide +kernel) rfl (by decide +kernel) ⟨by decide, by decide⟩ : e_Sn 8 63 (o_iinc 5 1 66)) t_8_66
noncomputable def n_8_62 : e_Y := u_retI
theorem t_8_62 : e_Sn 8 62 (e_un n_8_62) := u_retIT (s_iret hq_8 hr_8 (by decide +kernel) : e_Sn 8 62 (o_ret e_okI))
noncomputable def n_8_60 : e_Y := u_ld f_okI f_l5 n_8_62
theorem t_8_60 : e_Sn 8 60 (e_un n_8_60) := u_ldIT f_l5_eq (s_iload (i := .iload 5) (len := 2) hq_8 (by decide +kernel) rfl (.inl ⟨rfl, rfl⟩) : e_Sn 8 60 (o_load e_okI 5 62)) t_8_62
noncomputable def n_8_57 : e_Y := u_if y_ne0 (u_old2 (o_ifeq 60 63) 60 n_8_60 n_8_63) n_8_60 n_8_63
theorem t_8_57 : e_Sn 8 57 (e_un n_8_57) := u_ifeqT rfl (s_ifne (off := (6)) hq_8 (by decide +kernel) rfl rfl : e_Sn 8 57 (o_ifeq 60 63)) t_8_60 t_8_63
noncomputable def n_8_56 : e_Y := u_ld f_okI f_l3 n_8_57
theorem t_8_56 : e_Sn 8 56 (e_un n_8_56) := u_ldIT f_l3_eq (s_iload (i := .iload_n 3) (len := 1) hq_8 (by decide +kernel) rfl (.inr ⟨3, rfl, rfl, rfl⟩) : e_Sn 8 56 (o_load e_okI 3 57)) t_8_57
noncomputable def n_8_53 : e_Y := u_inc f_l3 f_s3 4294967295 n_8_56
theorem t_8_53 : e_Sn 8 53 (e_un n_8_53) := u_incT f_l3_eq (fun _ _ _ => f_s3_eq) (s_iinc (zz := (-1)) hq_8 (by decide +kernel) rfl (by decide +kernel) ⟨by decide, by decide⟩ : e_Sn 8 53 (o_iinc 3 4294967295 56)) t_8_56
noncomputable def n_8_50 : e_Y := u_jmp y_ne (u_old2 (o_ceq 53 63) 53 n_8_53 n_8_63) n_8_53 n_8_63
theorem t_8_50 : e_Sn 8 50 (e_un n_8_50) := u_ceqT rfl (s_cne (off := (13)) hq_8 (by decide +kernel) rfl rfl : e_Sn 8 50 (o_ceq 53 63)) t_8_53 t_8_63
noncomputable def n_8_49 : e_Y := u_push (.inl 2147483653) n_8_50
theorem t_8_49 : e_Sn 8 49 (e_un n_8_49) := u_pushT (s_iconst (n := (5)) hq_8 (by decide +kernel) rfl ⟨by decide +kernel, by decide +kernel⟩ : e_Sn 8 49 (o_push (.inl 2147483653) 50)) t_8_50
noncomputable def n_8_48 : e_Y := u_ald 0 (u_old (o_ald e_fcs 49) n_8_49) n_8_49
theorem t_8_48 : e_Sn 8 48 (e_un n_8_48) := u_aldT (s_iald hq_8 (by decide +kernel) rfl : e_Sn 8 48 (o_ald e_fcs 49)) t_8_49
noncomputable def n_8_46 : e_Y := u_ld f_okI f_l5 n_8_48
theorem t_8_46 : e_Sn 8 46 (e_un n_8_46) := u_ldIT f_l5_eq (s_iload (i := .iload 5) (len := 2) hq_8 (by decide +kernel) rfl (.inl ⟨rfl, rfl⟩) : e_Sn 8 46 (o_load e_okI 5 48)) t_8_48
noncomputable def n_8_43 : e_Y := u_getf 1 0 (u_old (o_getf (e_f1 1 0) 46) n_8_46) n_8_46
theorem t_8_43 : e_Sn 8 43 (e_un n_8_43) := u_getfT (s_getf (C := er_1) (T := et_1) (N := 4) (ref := "Plateroomprinter$Code") (index := 11) (ci := 1) (k := 0) hq_8 ho_8 ⟨rfl, by decide, ei_1, (List.mem_of_getElem? (i := 198) (by decide +kernel)), .inl rfl⟩ (by decide +kernel) rfl : e_Sn 8 43 (o_getf (e_f1 1 0) 46)) t_8_46
noncomputable def n_8_42 : e_Y := u_ld f_okA f_l0 n_8_43
theorem t_8_42 : e_Sn 8 42 (e_un n_8_42) := u_ldAT f_l0_eq (s_aload (i := .aload_n 0) (len := 1) hq_8 (by decide +kernel) rfl (.inr ⟨0, rfl, rfl, rfl⟩) : e_Sn 8 42 (o_load e_okR 0 43)) t_8_43
noncomputable def n_8_39 : e_Y := n_8_63
theorem t_8_39 : e_Sn 8 39 (e_un n_8_39) := u_gotoT (s_goto (off := (24)) hq_8 (by decide +kernel) rfl : e_Sn 8 39 (o_goto 63)) t_8_63
noncomputable def n_8_36 : e_Y := u_inc f_l3 f_s3 1 n_8_39
theorem t_8_36 : e_Sn 8 36 (e_un n_8_36) := u_incT f_l3_eq (fun _ _ _ => f_s3_eq) (s_iinc (zz := (1)) hq_8 (by decide +kernel) rfl (by decide +kernel) ⟨by decide, by decide⟩ : e_Sn 8 36 (o_iinc 3 1 39)) t_8_39
noncomputable def n_8_33 : e_Y := u_jmp y_ne (u_old2 (o_ceq 36 42) 36 n_8_36 n_8_42) n_8_36 n_8_42
theorem t_8_33 : e_Sn 8 33 (e_un n_8_33) := u_ceqT rfl (s_cne (off := (9)) hq_8 (by decide +kernel) rfl rfl : e_Sn 8 33 (o_ceq 36 42)) t_8_36 t_8_42
noncomputable def n_8_32 : e_Y := u_push (.inl 2147483652) n_8_33
theorem t_8_32 : e_Sn 8 32 (e_un n_8_32) := u_pushT (s_iconst (n := (4)) hq_8 (by decide +kernel) rfl ⟨by decide +kernel, by decide +kernel⟩ : e_Sn 8 32 (o_push (.inl 2147483652) 33)) t_8_33
noncomputable def n_8_31 : e_Y := u_ald 0 (u_old (o_ald e_fcs 32) n_8_32) n_8_32
theorem t_8_31 : e_Sn 8 31 (e_un n_8_31) := u_aldT (s_iald hq_8 (by decide +kernel) rfl : e_Sn 8 31 (o_ald e_fcs 32)) t_8_32
noncomputable def n_8_29 : e_Y := u_ld f_okI f_l5 n_8_31
theorem t_8_29 : e_Sn 8 29 (e_un n_8_29) := u_ldIT f_l5_eq (s_iload (i := .iload 5) (len := 2) hq_8 (by decide +kernel) rfl (.inl ⟨rfl, rfl⟩) : e_Sn 8 29 (o_load e_okI 5 31)) t_8_31
noncomputable def n_8_26 : e_Y := u_getf 1 0 (u_old (o_getf (e_f1 1 0) 29) n_8_29) n_8_29
theorem t_8_26 : e_Sn 8 26 (e_un n_8_26) := u_getfT (s_getf (C := er_1) (T := et_1) (N := 4) (ref := "Plateroomprinter$Code") (index := 11) (ci := 1) (k := 0) hq_8 ho_8 ⟨rfl, by decide, ei_1, (List.mem_of_getElem? (i := 198) (by decide +kernel)), .inl rfl⟩ (by decide +kernel) rfl : e_Sn 8 26 (o_getf (e_f1 1 0) 29)) t_8_29
noncomputable def n_8_25 : e_Y := u_ld f_okA f_l0 n_8_26
theorem t_8_25 : e_Sn 8 25 (e_un n_8_25) := u_ldAT f_l0_eq (s_aload (i := .aload_n 0) (len := 1) hq_8 (by decide +kernel) rfl (.inr ⟨0, rfl, rfl, rfl⟩) : e_Sn 8 25 (o_load e_okR 0 26)) t_8_26
noncomputable def n_8_22 : e_Y := u_jmp y_ge (u_old2 (o_clt 25 69) 25 n_8_25 (u_at 69)) n_8_25 (u_at 69)
theorem t_8_22 : e_Sn 8 22 (e_un n_8_22) := u_cltT rfl (s_cge (off := (47)) hq_8 (by decide +kernel) rfl rfl : e_Sn 8 22 (o_clt 25 69)) t_8_25 u_atT
noncomputable def n_8_20 : e_Y := u_ld f_okI f_l4 n_8_22
theorem t_8_20 : e_Sn 8 20 (e_un n_8_20) := u_ldIT f_l4_eq (s_iload (i := .iload 4) (len := 2) hq_8 (by decide +kernel) rfl (.inl ⟨rfl, rfl⟩) : e_Sn 8 20 (o_load e_okI 4 22)) t_8_22
noncomputable def n_8_18 : e_Y := u_ld f_okI f_l5 n_8_20
theorem t_8_18 : e_Sn 8 18 (e_un n_8_18) := u_ldIT f_l5_eq (s_iload (i := .iload 5) (len := 2) hq_8 (by decide +kernel) rfl (.inl ⟨rfl, rfl⟩) : e_Sn 8 18 (o_load e_okI 5 20)) t_8_20
noncomputable def n_8_16 : e_Y := u_st f_okI f_s5 n_8_18
theorem t_8_16 : e_Sn 8 16 (e_un n_8_16) := u_stIT (fun _ _ _ => f_s5_eq) (s_istore (i := .istore 5) (len := 2) hq_8 (by decide +kernel) rfl (.inl ⟨rfl, rfl⟩) : e_Sn 8 16 (o_store e_okI 5 18)) t_8_18
noncomputable def n_8_13 : e_Y := u_tab (o_mmax 16)
theorem t_8_13 : e_Sn 8 13 (e_un n_8_13) := u_tabT (s_mmax (index := 31) hq_8 ho_8 (List.mem_of_getElem? (i := 850) (by decide +kernel)) (List.mem_of_getElem? (i := 229) (by decide +kernel)) (List.mem_of_getElem? (i := 142) (by decide +kernel)) (List.mem_of_getElem? (i := 230) (by decide +kernel)) (by decide +kernel) rfl : e_Sn 8 13 (o_mmax 16))
noncomputable def n_8_12 : e_Y := u_ld f_okI f_l1 n_8_13
theorem t_8_12 : e_Sn 8 12 (e_un n_8_12) := u_ldIT f_l1_eq (s_iload (i := .iload_n 1) (len := 1) hq_8 (by decide +kernel) rfl (.inr ⟨1, rfl, rfl, rfl⟩) : e_Sn 8 12 (o_load e_okI 1 13)) t_8_13
noncomputable def n_8_11 : e_Y := u_push (.inl 2147483648) n_8_12
theorem t_8_11 : e_Sn 8 11 (e_un n_8_11) := u_pushT (s_iconst (n := (0)) hq_8 (by decide +kernel) rfl ⟨by decide +kernel, by decide +kernel⟩ : e_Sn 8 11 (o_push (.inl 2147483648) 12)) t_8_12
noncomputable def n_8_9 : e_Y := u_st f_okI f_s4 n_8_11
theorem t_8_9 : e_Sn 8 9 (e_un n_8_9) := u_stIT (fun _ _ _ => f_s4_eq) (s_istore (i := .istore 4) (len := 2) hq_8 (by decide +kernel) rfl (.inl ⟨rfl, rfl⟩) : e_Sn 8 9 (o_store e_okI 4 11)) t_8_11
noncomputable def n_8_6 : e_Y := u_tab (o_mmin 9)
theorem t_8_6 : e_Sn 8 6 (e_un n_8_6) := u_tabT (s_mmin (index := 25) hq_8 ho_8 (List.mem_of_getElem? (i := 849) (by decide +kernel)) (List.mem_of_getElem? (i := 425) (by decide +kernel)) (List.mem_of_getElem? (i := 142) (by decide +kernel)) (List.mem_of_getElem? (i := 426) (by decide +kernel)) (by decide +kernel) rfl : e_Sn 8 6 (o_mmin 9))
noncomputable def n_8_3 : e_Y := u_push (.inl 2147485648) n_8_6
theorem t_8_3 : e_Sn 8 3 (e_un n_8_3) := u_pushT (s_sipush (n := (2000)) hq_8 (by decide +kernel) rfl ⟨by decide +kernel, by decide +kernel⟩ : e_Sn 8 3 (o_push (.inl 2147485648) 6)) t_8_6
noncomputable def n_8_2 : e_Y := u_ld f_okI f_l2 n_8_3
theorem t_8_2 : e_Sn 8 2 (e_un n_8_2) := u_ldIT f_l2_eq (s_iload (i := .iload_n 2) (len := 1) hq_8 (by decide +kernel) rfl (.inr ⟨2, rfl, rfl, rfl⟩) : e_Sn 8 2 (o_load e_okI 2 3)) t_8_3
noncomputable def n_8_1 : e_Y := u_st f_okI f_s3 n_8_2
theorem t_8_1 : e_Sn 8 1 (e_un n_8_1) := u_stIT (fun _ _ _ => f_s3_eq) (s_istore (i := .istore_n 3) (len := 1) hq_8 (by decide +kernel) rfl (.inr ⟨3, rfl, rfl, rfl⟩) : e_Sn 8 1 (o_store e_okI 3 2)) t_8_2
noncomputable def n_8_0 : e_Y := u_push (.inl 2147483649) n_8_1
theorem t_8_0 : e_Sn 8 0 (e_un n_8_0) := u_pushT (s_iconst (n := (1)) hq_8 (by decide +kernel) rfl ⟨by decide +kernel, by decide +kernel⟩ : e_Sn 8 0 (o_push (.inl 2147483649) 1)) t_8_1
noncomputable def e_tb_8 : e_X := (e_br 16 (e_br 9 (e_lf 0 (e_un n_8_0)) (e_lf 9 (e_un n_8_9))) (e_br 18 (e_lf 16 (e_un n_8_16)) (e_lf 18 (e_un n_8_18))))
theorem e_tk_8 : e_Tb 8 e_tb_8 := (e_brT (e_brT (e_lfT t_8_0) (e_lfT t_8_9)) (e_brT (e_lfT t_8_16) (e_lfT t_8_18)))
theorem hq_32 : (e_ml[32]?).map (·.2.1) = some prog_5_method_9_code := rfl
theorem ho_32 : (e_ml[32]?).map (·.1.cls) = some "Plateroomprinter$Items" := rfl
theorem hr_32 : (e_ml[32]?).map (·.2.2.2) = some (some .int) := rfl
noncomputable def n_32_62 : e_Y := u_retI
theorem t_32_62 : e_Sn 32 62 (e_un n_32_62) := u_retIT (s_iret hq_32 hr_32 (by decide +kernel) : e_Sn 32 62 (o_ret e_okI))
noncomputable def n_32_61 : e_Y := u_push (.inl 2147483648) n_32_62
theorem t_32_61 : e_Sn 32 61 (e_un n_32_61) := u_pushT (s_iconst (n := (0)) hq_32 (by decide +kernel) rfl ⟨by decide +kernel, by decide +kernel⟩ : e_Sn 32 61 (o_push (.inl 2147483648) 62)) t_32_62
noncomputable def n_32_58 : e_Y := u_old (o_putf (e_f1 4 4) e_okI 61) n_32_61
theorem t_32_58 : e_Sn 32 58 (e_un n_32_58) := u_oldT (s_putf (ty0 := ey_4) (ok := e_okI) (C := er_4) (T := et_4) (N := 5) (ref := "Plateroomprinter$Items") (index := 31) (ci := 4) (k := 4) hq_32 ho_32 ⟨rfl, by decide, ei_4, (List.mem_of_getElem? (i := 235) (by decide +kernel)), .inl rfl⟩ eo_4 en_4 e_oksI (.inl rfl) (by decide +kernel) rfl : e_Sn 32 58 (o_putf (e_f1 4 4) e_okI 61)) t_32_61 (e_cg_putf (e_f1 4 4) e_okI)
noncomputable def n_32_57 : e_Y := u_bin a_iadd (u_old (o_iadd 58) n_32_58) n_32_58
theorem t_32_57 : e_Sn 32 57 (e_un n_32_57) := u_iaddT (s_iadd hq_32 (by decide +kernel) rfl : e_Sn 32 57 (o_iadd 58)) t_32_58
noncomputable def n_32_56 : e_Y := u_push (.inl 2147483649) n_32_57
theorem t_32_56 : e_Sn 32 56 (e_un n_32_56) := u_pushT (s_iconst (n := (1)) hq_32 (by decide +kernel) rfl ⟨by decide +kernel, by decide +kernel⟩ : e_Sn 32 56 (o_push (.inl 2147483649) 57)) t_32_57
noncomputable def n_32_53 : e_Y := u_getf 4 4 (u_old (o_getf (e_f1 4 4) 56) n_32_56) n_32_56
theorem t_32_53 : e_Sn 32 53 (e_un n_32_53) := u_getfT (s_getf (C := er_4) (T := et_4) (N := 5) (ref := "Plateroomprinter$Items") (index := 31) (ci := 4) (k := 4) hq_32 ho_32 ⟨rfl, by decide, ei_4, (List.mem_of_getElem? (i := 235) (by decide +kernel)), .inl rfl⟩ (by decide +kernel) rfl : e_Sn 32 53 (o_getf (e_f1 4 4) 56)) t_32_56
noncomputable def n_32_52 : e_Y := u_old (o_dup 53) n_32_53
theorem t_32_52 : e_Sn 32 52 (e_un n_32_52) := u_oldT (s_dup hq_32 (by decide +kernel) rfl : e_Sn 32 52 (o_dup 53)) t_32_53 e_cg_dup
noncomputable def n_32_51 : e_Y := u_ld f_okA f_l0 n_32_52
theorem t_32_51 : e_Sn 32 51 (e_un n_32_51) := u_ldAT f_l0_eq (s_aload (i := .aload_n 0) (len := 1) hq_32 (by decide +kernel) rfl (.inr ⟨0, rfl, rfl, rfl⟩) : e_Sn 32 51 (o_load e_okR 0 52)) t_32_52
noncomputable def n_32_50 : e_Y := u_old (o_ast 0 e_okI 51) n_32_51
theorem t_32_50 : e_Sn 32 50 (e_un n_32_50) := u_oldT (s_iast hq_32 (by decide +kernel) rfl : e_Sn 32 50 (o_ast 0 e_okI 51)) t_32_51 (e_cg_ast 0 e_okI)
noncomputable def n_32_49 : e_Y := u_ld f_okI f_l3 n_32_50
theorem t_32_49 : e_Sn 32 49 (e_un n_32_49) := u_ldIT f_l3_eq (s_iload (i := .iload_n 3) (len := 1) hq_32 (by decide +kernel) rfl (.inr ⟨3, rfl, rfl, rfl⟩) : e_Sn 32 49 (o_load e_okI 3 50)) t_32_50
noncomputable def n_32_46 : e_Y := u_getf 4 4 (u_old (o_getf (e_f1 4 4) 49) n_32_49) n_32_49
theorem t_32_46 : e_Sn 32 46 (e_un n_32_46) := u_getfT (s_getf (C := er_4) (T := et_4) (N := 5) (ref := "Plateroomprinter$Items") (index := 31) (ci := 4) (k := 4) hq_32 ho_32 ⟨rfl, by decide, ei_4, (List.mem_of_getElem? (i := 235) (by decide +kernel)), .inl rfl⟩ (by decide +kernel) rfl : e_Sn 32 46 (o_getf (e_f1 4 4) 49)) t_32_49
noncomputable def n_32_45 : e_Y := u_ld f_okA f_l0 n_32_46
theorem t_32_45 : e_Sn 32 45 (e_un n_32_45) := u_ldAT f_l0_eq (s_aload (i := .aload_n 0) (len := 1) hq_32 (by decide +kernel) rfl (.inr ⟨0, rfl, rfl, rfl⟩) : e_Sn 32 45 (o_load e_okR 0 46)) t_32_46
noncomputable def n_32_42 : e_Y := u_getf 4 3 (u_old (o_getf (e_f1 4 3) 45) n_32_45) n_32_45
theorem t_32_42 : e_Sn 32 42 (e_un n_32_42) := u_getfT (s_getf (C := er_4) (T := et_4) (N := 5) (ref := "Plateroomprinter$Items") (index := 28) (ci := 4) (k := 3) hq_32 ho_32 ⟨rfl, by decide, ei_4, (List.mem_of_getElem? (i := 234) (by decide +kernel)), .inl rfl⟩ (by decide +kernel) rfl : e_Sn 32 42 (o_getf (e_f1 4 3) 45)) t_32_45
noncomputable def n_32_41 : e_Y := u_ld f_okA f_l0 n_32_42
theorem t_32_41 : e_Sn 32 41 (e_un n_32_41) := u_ldAT f_l0_eq (s_aload (i := .aload_n 0) (len := 1) hq_32 (by decide +kernel) rfl (.inr ⟨0, rfl, rfl, rfl⟩) : e_Sn 32 41 (o_load e_okR 0 42)) t_32_42
noncomputable def n_32_40 : e_Y := u_old (o_ast 0 e_okI 41) n_32_41
theorem t_32_40 : e_Sn 32 40 (e_un n_32_40) := u_oldT (s_iast hq_32 (by decide +kernel) rfl : e_Sn 32 40 (o_ast 0 e_okI 41)) t_32_41 (e_cg_ast 0 e_okI)
noncomputable def n_32_39 : e_Y := u_ld f_okI f_l2 n_32_40
theorem t_32_39 : e_Sn 32 39 (e_un n_32_39) := u_ldIT f_l2_eq (s_iload (i := .iload_n 2) (len := 1) hq_32 (by decide +kernel) rfl (.inr ⟨2, rfl, rfl, rfl⟩) : e_Sn 32 39 (o_load e_okI 2 40)) t_32_40
noncomputable def n_32_36 : e_Y := u_getf 4 4 (u_old (o_getf (e_f1 4 4) 39) n_32_39) n_32_39
theorem t_32_36 : e_Sn 32 36 (e_un n_32_36) := u_getfT (s_getf (C := er_4) (T := et_4) (N := 5) (ref := "Plateroomprinter$Items") (index := 31) (ci := 4) (k := 4) hq_32 ho_32 ⟨rfl, by decide, ei_4, (List.mem_of_getElem? (i := 235) (by decide +kernel)), .inl rfl⟩ (by decide +kernel) rfl : e_Sn 32 36 (o_getf (e_f1 4 4) 39)) t_32_39
noncomputable def n_32_35 : e_Y := u_ld f_okA f_l0 n_32_36
theorem t_32_35 : e_Sn 32 35 (e_un n_32_35) := u_ldAT f_l0_eq (s_aload (i := .aload_n 0) (len := 1) hq_32 (by decide +kernel) rfl (.inr ⟨0, rfl, rfl, rfl⟩) : e_Sn 32 35 (o_load e_okR 0 36)) t_32_36
noncomputable def n_32_32 : e_Y := u_getf 4 2 (u_old (o_getf (e_f1 4 2) 35) n_32_35) n_32_35
theorem t_32_32 : e_Sn 32 32 (e_un n_32_32) := u_getfT (s_getf (C := er_4) (T := et_4) (N := 5) (ref := "Plateroomprinter$Items") (index := 25) (ci := 4) (k := 2) hq_32 ho_32 ⟨rfl, by decide, ei_4, (List.mem_of_getElem? (i := 233) (by decide +kernel)), .inl rfl⟩ (by decide +kernel) rfl : e_Sn 32 32 (o_getf (e_f1 4 2) 35)) t_32_35
noncomputable def n_32_31 : e_Y := u_ld f_okA f_l0 n_32_32
theorem t_32_31 : e_Sn 32 31 (e_un n_32_31) := u_ldAT f_l0_eq (s_aload (i := .aload_n 0) (len := 1) hq_32 (by decide +kernel) rfl (.inr ⟨0, rfl, rfl, rfl⟩) : e_Sn 32 31 (o_load e_okR 0 32)) t_32_32
noncomputable def n_32_30 : e_Y := u_old (o_ast 0 e_okI 31) n_32_31
theorem t_32_30 : e_Sn 32 30 (e_un n_32_30) := u_oldT (s_iast hq_32 (by decide +kernel) rfl : e_Sn 32 30 (o_ast 0 e_okI 31)) t_32_31 (e_cg_ast 0 e_okI)
noncomputable def n_32_29 : e_Y := u_ld f_okI f_l1 n_32_30
theorem t_32_29 : e_Sn 32 29 (e_un n_32_29) := u_ldIT f_l1_eq (s_iload (i := .iload_n 1) (len := 1) hq_32 (by decide +kernel) rfl (.inr ⟨1, rfl, rfl, rfl⟩) : e_Sn 32 29 (o_load e_okI 1 30)) t_32_30
noncomputable def n_32_26 : e_Y := u_getf 4 4 (u_old (o_getf (e_f1 4 4) 29) n_32_29) n_32_29
theorem t_32_26 : e_Sn 32 26 (e_un n_32_26) := u_getfT (s_getf (C := er_4) (T := et_4) (N := 5) (ref := "Plateroomprinter$Items") (index := 31) (ci := 4) (k := 4) hq_32 ho_32 ⟨rfl, by decide, ei_4, (List.mem_of_getElem? (i := 235) (by decide +kernel)), .inl rfl⟩ (by decide +kernel) rfl : e_Sn 32 26 (o_getf (e_f1 4 4) 29)) t_32_29
noncomputable def n_32_25 : e_Y := u_ld f_okA f_l0 n_32_26
theorem t_32_25 : e_Sn 32 25 (e_un n_32_25) := u_ldAT f_l0_eq (s_aload (i := .aload_n 0) (len := 1) hq_32 (by decide +kernel) rfl (.inr ⟨0, rfl, rfl, rfl⟩) : e_Sn 32 25 (o_load e_okR 0 26)) t_32_26
noncomputable def n_32_22 : e_Y := u_getf 4 1 (u_old (o_getf (e_f1 4 1) 25) n_32_25) n_32_25
theorem t_32_22 : e_Sn 32 22 (e_un n_32_22) := u_getfT (s_getf (C := er_4) (T := et_4) (N := 5) (ref := "Plateroomprinter$Items") (index := 21) (ci := 4) (k := 1) hq_32 ho_32 ⟨rfl, by decide, ei_4, (List.mem_of_getElem? (i := 232) (by decide +kernel)), .inl rfl⟩ (by decide +kernel) rfl : e_Sn 32 22 (o_getf (e_f1 4 1) 25)) t_32_25
noncomputable def n_32_21 : e_Y := u_ld f_okA f_l0 n_32_22
theorem t_32_21 : e_Sn 32 21 (e_un n_32_21) := u_ldAT f_l0_eq (s_aload (i := .aload_n 0) (len := 1) hq_32 (by decide +kernel) rfl (.inr ⟨0, rfl, rfl, rfl⟩) : e_Sn 32 21 (o_load e_okR 0 22)) t_32_22
noncomputable def n_32_15 : e_Y := u_jmp y_ge (u_old2 (o_clt 21 18) 21 n_32_21 (u_at 18)) n_32_21 (u_at 18)
theorem t_32_15 : e_Sn 32 15 (e_un n_32_15) := u_cltT rfl (s_clt (off := (6)) hq_32 (by decide +kernel) rfl rfl : e_Sn 32 15 (o_clt 21 18)) t_32_21 u_atT
noncomputable def n_32_12 : e_Y := u_getf 4 0 (u_old (o_getf (e_f1 4 0) 15) n_32_15) n_32_15
theorem t_32_12 : e_Sn 32 12 (e_un n_32_12) := u_getfT (s_getf (C := er_4) (T := et_4) (N := 5) (ref := "Plateroomprinter$Items") (index := 15) (ci := 4) (k := 0) hq_32 ho_32 ⟨rfl, by decide, ei_4, (List.mem_of_getElem? (i := 231) (by decide +kernel)), .inl rfl⟩ (by decide +kernel) rfl : e_Sn 32 12 (o_getf (e_f1 4 0) 15)) t_32_15
noncomputable def n_32_11 : e_Y := u_ld f_okA f_l0 n_32_12
theorem t_32_11 : e_Sn 32 11 (e_un n_32_11) := u_ldAT f_l0_eq (s_aload (i := .aload_n 0) (len := 1) hq_32 (by decide +kernel) rfl (.inr ⟨0, rfl, rfl, rfl⟩) : e_Sn 32 11 (o_load e_okR 0 12)) t_32_12
noncomputable def n_32_8 : e_Y := u_getf 4 4 (u_old (o_getf (e_f1 4 4) 11) n_32_11) n_32_11
theorem t_32_8 : e_Sn 32 8 (e_un n_32_8) := u_getfT (s_getf (C := er_4) (T := et_4) (N := 5) (ref := "Plateroomprinter$Items") (index := 31) (ci := 4) (k := 4) hq_32 ho_32 ⟨rfl, by decide, ei_4, (List.mem_of_getElem? (i := 235) (by decide +kernel)), .inl rfl⟩ (by decide +kernel) rfl : e_Sn 32 8 (o_getf (e_f1 4 4) 11)) t_32_11
noncomputable def n_32_7 : e_Y := u_ld f_okA f_l0 n_32_8
theorem t_32_7 : e_Sn 32 7 (e_un n_32_7) := u_ldAT f_l0_eq (s_aload (i := .aload_n 0) (len := 1) hq_32 (by decide +kernel) rfl (.inr ⟨0, rfl, rfl, rfl⟩) : e_Sn 32 7 (o_load e_okR 0 8)) t_32_8
noncomputable def n_32_4 : e_Y := u_if y_ge0 (u_old2 (o_iflt 18 7) 18 (u_at 18) n_32_7) (u_at 18) n_32_7
theorem t_32_4 : e_Sn 32 4 (e_un n_32_4) := u_ifltT rfl (s_iflt (off := (14)) hq_32 (by decide +kernel) rfl rfl : e_Sn 32 4 (o_iflt 18 7)) u_atT t_32_7
noncomputable def n_32_1 : e_Y := u_getf 4 4 (u_old (o_getf (e_f1 4 4) 4) n_32_4) n_32_4
theorem t_32_1 : e_Sn 32 1 (e_un n_32_1) := u_getfT (s_getf (C := er_4) (T := et_4) (N := 5) (ref := "Plateroomprinter$Items") (index := 31) (ci := 4) (k := 4) hq_32 ho_32 ⟨rfl, by decide, ei_4, (List.mem_of_getElem? (i := 235) (by decide +kernel)), .inl rfl⟩ (by decide +kernel) rfl : e_Sn 32 1 (o_getf (e_f1 4 4) 4)) t_32_4
noncomputable def n_32_0 : e_Y := u_ld f_okA f_l0 n_32_1
theorem t_32_0 : e_Sn 32 0 (e_un n_32_0) := u_ldAT f_l0_eq (s_aload (i := .aload_n 0) (len := 1) hq_32 (by decide +kernel) rfl (.inr ⟨0, rfl, rfl, rfl⟩) : e_Sn 32 0 (o_load e_okR 0 1)) t_32_1
noncomputable def e_tb_32 : e_X := (e_lf 0 (e_un n_32_0))
theorem e_tk_32 : e_Tb 32 e_tb_32 := (e_lfT t_32_0)
theorem hq_19 : (e_ml[19]?).map (·.2.1) = some prog_3_method_10_code := rfl
theorem ho_19 : (e_ml[19]?).map (·.1.cls) = some "Plateroomprinter$Engine" := rfl
theorem hr_19 : (e_ml[19]?).map (·.2.2.2) = some (some .int) := rfl
noncomputable def n_19_67 : e_Y := u_retI
theorem t_19_67 : e_Sn 19 67 (e_un n_19_67) := u_retIT (s_iret hq_19 hr_19 (by decide +kernel) : e_Sn 19 67 (o_ret e_okI))
noncomputable def n_19_64 : e_Y := u_callV 4 32 4 23 4 n_32_0 n_19_67
theorem t_19_64 : e_Sn 19 64 (e_un n_19_64) := u_callVT rfl (s_callV (ci := 4) (C := er_4) (T := et_4) (N := 5) (index := 119) hq_19 ho_19 hy_32 hp_32 hc_32 hi_32 hd_32 (List.mem_of_getElem? (i := 824) (by decide +kernel)) hs_32 (List.mem_of_getElem? (i := 809) (by decide +kernel)) rfl (by decide +kernel) rfl : e_Sn 19 64 (o_callV (e_s1 4 32 4) 4 67)) t_32_0 t_19_67
noncomputable def n_19_63 : e_Y := u_bin a_isub (u_old (o_isub 64) n_19_64) n_19_64
theorem t_19_63 : e_Sn 19 63 (e_un n_19_63) := u_isubT (s_isub hq_19 (by decide +kernel) rfl : e_Sn 19 63 (o_isub 64)) t_19_64
noncomputable def n_19_62 : e_Y := u_ld f_okI f_l2 n_19_63
theorem t_19_62 : e_Sn 19 62 (e_un n_19_62) := u_ldIT f_l2_eq (s_iload (i := .iload_n 2) (len := 1) hq_19 (by decide +kernel) rfl (.inr ⟨2, rfl, rfl, rfl⟩) : e_Sn 19 62 (o_load e_okI 2 63)) t_19_63
noncomputable def n_19_61 : e_Y := u_ld f_okI f_l3 n_19_62
theorem t_19_61 : e_Sn 19 61 (e_un n_19_61) := u_ldIT f_l3_eq (s_iload (i := .iload_n 3) (len := 1) hq_19 (by decide +kernel) rfl (.inr ⟨3, rfl, rfl, rfl⟩) : e_Sn 19 61 (o_load e_okI 3 62)) t_19_62
noncomputable def n_19_60 : e_Y := u_ld f_okI f_l2 n_19_61
theorem t_19_60 : e_Sn 19 60 (e_un n_19_60) := u_ldIT f_l2_eq (s_iload (i := .iload_n 2) (len := 1) hq_19 (by decide +kernel) rfl (.inr ⟨2, rfl, rfl, rfl⟩) : e_Sn 19 60 (o_load e_okI 2 61)) t_19_61
noncomputable def n_19_59 : e_Y := u_push (.inl 2147483650) n_19_60
theorem t_19_59 : e_Sn 19 59 (e_un n_19_59) := u_pushT (s_iconst (n := (2)) hq_19 (by decide +kernel) rfl ⟨by decide +kernel, by decide +kernel⟩ : e_Sn 19 59 (o_push (.inl 2147483650) 60)) t_19_60
noncomputable def n_19_56 : e_Y := u_getf 11 0 (u_old (o_getf (e_f1 11 0) 59) n_19_59) n_19_59
theorem t_19_56 : e_Sn 19 56 (e_un n_19_56) := u_getfT (s_getf (C := er_11) (T := et_11) (N := 15) (ref := "Plateroomprinter$World") (index := 93) (ci := 11) (k := 0) hq_19 ho_19 ⟨rfl, by decide, ei_11, (List.mem_of_getElem? (i := 460) (by decide +kernel)), .inl rfl⟩ (by decide +kernel) rfl : e_Sn 19 56 (o_getf (e_f1 11 0) 59)) t_19_59
noncomputable def n_19_53 : e_Y := u_getf 2 0 (u_old (o_getf (e_f1 2 0) 56) n_19_56) n_19_56
theorem t_19_53 : e_Sn 19 53 (e_un n_19_53) := u_getfT (s_getf (C := er_2) (T := et_2) (N := 19) (ref := "Plateroomprinter$Engine") (index := 45) (ci := 2) (k := 0) hq_19 ho_19 ⟨rfl, by decide, ei_2, (List.mem_of_getElem? (i := 616) (by decide +kernel)), .inl rfl⟩ (by decide +kernel) rfl : e_Sn 19 53 (o_getf (e_f1 2 0) 56)) t_19_56
noncomputable def n_19_52 : e_Y := u_ld f_okA f_l0 n_19_53
theorem t_19_52 : e_Sn 19 52 (e_un n_19_52) := u_ldAT f_l0_eq (s_aload (i := .aload_n 0) (len := 1) hq_19 (by decide +kernel) rfl (.inr ⟨0, rfl, rfl, rfl⟩) : e_Sn 19 52 (o_load e_okR 0 53)) t_19_53
noncomputable def n_19_51 : e_Y := u_old (o_ast 0 e_okI 52) n_19_52
theorem t_19_51 : e_Sn 19 51 (e_un n_19_51) := u_oldT (s_iast hq_19 (by decide +kernel) rfl : e_Sn 19 51 (o_ast 0 e_okI 52)) t_19_52 (e_cg_ast 0 e_okI)
noncomputable def n_19_50 : e_Y := u_bin a_iadd (u_old (o_iadd 51) n_19_51) n_19_51
theorem t_19_50 : e_Sn 19 50 (e_un n_19_50) := u_iaddT (s_iadd hq_19 (by decide +kernel) rfl : e_Sn 19 50 (o_iadd 51)) t_19_51
noncomputable def n_19_49 : e_Y := u_push (.inl 2147483649) n_19_50
theorem t_19_49 : e_Sn 19 49 (e_un n_19_49) := u_pushT (s_iconst (n := (1)) hq_19 (by decide +kernel) rfl ⟨by decide +kernel, by decide +kernel⟩ : e_Sn 19 49 (o_push (.inl 2147483649) 50)) t_19_50
noncomputable def n_19_48 : e_Y := u_ld f_okI f_l3 n_19_49
theorem t_19_48 : e_Sn 19 48 (e_un n_19_48) := u_ldIT f_l3_eq (s_iload (i := .iload_n 3) (len := 1) hq_19 (by decide +kernel) rfl (.inr ⟨3, rfl, rfl, rfl⟩) : e_Sn 19 48 (o_load e_okI 3 49)) t_19_49
noncomputable def n_19_47 : e_Y := u_ld f_okI f_l1 n_19_48
theorem t_19_47 : e_Sn 19 47 (e_un n_19_47) := u_ldIT f_l1_eq (s_iload (i := .iload_n 1) (len := 1) hq_19 (by decide +kernel) rfl (.inr ⟨1, rfl, rfl, rfl⟩) : e_Sn 19 47 (o_load e_okI 1 48)) t_19_48
noncomputable def n_19_44 : e_Y := u_getf 2 7 (u_old (o_getf (e_f1 2 7) 47) n_19_47) n_19_47
theorem t_19_44 : e_Sn 19 44 (e_un n_19_44) := u_getfT (s_getf (C := er_2) (T := et_2) (N := 19) (ref := "Plateroomprinter$Engine") (index := 27) (ci := 2) (k := 7) hq_19 ho_19 ⟨rfl, by decide, ei_2, (List.mem_of_getElem? (i := 624) (by decide +kernel)), .inl rfl⟩ (by decide +kernel) rfl : e_Sn 19 44 (o_getf (e_f1 2 7) 47)) t_19_47
noncomputable def n_19_43 : e_Y := u_ld f_okA f_l0 n_19_44
theorem t_19_43 : e_Sn 19 43 (e_un n_19_43) := u_ldAT f_l0_eq (s_aload (i := .aload_n 0) (len := 1) hq_19 (by decide +kernel) rfl (.inr ⟨0, rfl, rfl, rfl⟩) : e_Sn 19 43 (o_load e_okR 0 44)) t_19_44
noncomputable def n_19_37 : e_Y := u_jmp y_ne (u_old2 (o_ceq 40 43) 40 (u_at 40) n_19_43) (u_at 40) n_19_43
theorem t_19_37 : e_Sn 19 37 (e_un n_19_37) := u_ceqT rfl (s_cne (off := (6)) hq_19 (by decide +kernel) rfl rfl : e_Sn 19 37 (o_ceq 40 43)) u_atT t_19_43
noncomputable def n_19_36 : e_Y := u_push (.inl 2147483647) n_19_37
theorem t_19_36 : e_Sn 19 36 (e_un n_19_36) := u_pushT (s_iconst (n := (-1)) hq_19 (by decide +kernel) rfl ⟨by decide +kernel, by decide +kernel⟩ : e_Sn 19 36 (o_push (.inl 2147483647) 37)) t_19_37
noncomputable def n_19_35 : e_Y := u_ld f_okI f_l3 n_19_36
theorem t_19_35 : e_Sn 19 35 (e_un n_19_35) := u_ldIT f_l3_eq (s_iload (i := .iload_n 3) (len := 1) hq_19 (by decide +kernel) rfl (.inr ⟨3, rfl, rfl, rfl⟩) : e_Sn 19 35 (o_load e_okI 3 36)) t_19_36
noncomputable def n_19_34 : e_Y := u_st f_okI f_s3 n_19_35
theorem t_19_34 : e_Sn 19 34 (e_un n_19_34) := u_stIT (fun _ _ _ => f_s3_eq) (s_istore (i := .istore_n 3) (len := 1) hq_19 (by decide +kernel) rfl (.inr ⟨3, rfl, rfl, rfl⟩) : e_Sn 19 34 (o_store e_okI 3 35)) t_19_35
noncomputable def n_19_31 : e_Y := u_callV 1 8 6 25 3 n_8_0 n_19_34
theorem t_19_31 : e_Sn 19 31 (e_un n_19_31) := u_callVT rfl (s_callV (ci := 1) (C := er_1) (T := et_1) (N := 4) (index := 144) hq_19 ho_19 hy_8 hp_8 hc_8 hi_8 hd_8 (List.mem_of_getElem? (i := 845) (by decide +kernel)) hs_8 (List.mem_of_getElem? (i := 847) (by decide +kernel)) rfl (by decide +kernel) rfl : e_Sn 19 31 (o_callV (e_s1 1 8 6) 3 34)) t_8_0 t_19_34
noncomputable def n_19_30 : e_Y := u_ald 0 (u_old (o_ald e_fcs 31) n_19_31) n_19_31
theorem t_19_30 : e_Sn 19 30 (e_un n_19_30) := u_aldT (s_iald hq_19 (by decide +kernel) rfl : e_Sn 19 30 (o_ald e_fcs 31)) t_19_31
noncomputable def n_19_29 : e_Y := u_ld f_okI f_l1 n_19_30
theorem t_19_29 : e_Sn 19 29 (e_un n_19_29) := u_ldIT f_l1_eq (s_iload (i := .iload_n 1) (len := 1) hq_19 (by decide +kernel) rfl (.inr ⟨1, rfl, rfl, rfl⟩) : e_Sn 19 29 (o_load e_okI 1 30)) t_19_30
noncomputable def n_19_26 : e_Y := u_getf 2 6 (u_old (o_getf (e_f1 2 6) 29) n_19_29) n_19_29
theorem t_19_26 : e_Sn 19 26 (e_un n_19_26) := u_getfT (s_getf (C := er_2) (T := et_2) (N := 19) (ref := "Plateroomprinter$Engine") (index := 24) (ci := 2) (k := 6) hq_19 ho_19 ⟨rfl, by decide, ei_2, (List.mem_of_getElem? (i := 623) (by decide +kernel)), .inl rfl⟩ (by decide +kernel) rfl : e_Sn 19 26 (o_getf (e_f1 2 6) 29)) t_19_29
noncomputable def n_19_25 : e_Y := u_ld f_okA f_l0 n_19_26
theorem t_19_25 : e_Sn 19 25 (e_un n_19_25) := u_ldAT f_l0_eq (s_aload (i := .aload_n 0) (len := 1) hq_19 (by decide +kernel) rfl (.inr ⟨0, rfl, rfl, rfl⟩) : e_Sn 19 25 (o_load e_okR 0 26)) t_19_26
noncomputable def n_19_24 : e_Y := u_ld f_okI f_l2 n_19_25
theorem t_19_24 : e_Sn 19 24 (e_un n_19_24) := u_ldIT f_l2_eq (s_iload (i := .iload_n 2) (len := 1) hq_19 (by decide +kernel) rfl (.inr ⟨2, rfl, rfl, rfl⟩) : e_Sn 19 24 (o_load e_okI 2 25)) t_19_25
noncomputable def n_19_21 : e_Y := u_getf 2 1 (u_old (o_getf (e_f1 2 1) 24) n_19_24) n_19_24
theorem t_19_21 : e_Sn 19 21 (e_un n_19_21) := u_getfT (s_getf (C := er_2) (T := et_2) (N := 19) (ref := "Plateroomprinter$Engine") (index := 49) (ci := 2) (k := 1) hq_19 ho_19 ⟨rfl, by decide, ei_2, (List.mem_of_getElem? (i := 617) (by decide +kernel)), .inl rfl⟩ (by decide +kernel) rfl : e_Sn 19 21 (o_getf (e_f1 2 1) 24)) t_19_24
noncomputable def n_19_20 : e_Y := u_ld f_okA f_l0 n_19_21
theorem t_19_20 : e_Sn 19 20 (e_un n_19_20) := u_ldAT f_l0_eq (s_aload (i := .aload_n 0) (len := 1) hq_19 (by decide +kernel) rfl (.inr ⟨0, rfl, rfl, rfl⟩) : e_Sn 19 20 (o_load e_okR 0 21)) t_19_21
noncomputable def n_19_19 : e_Y := u_st f_okI f_s2 n_19_20
theorem t_19_19 : e_Sn 19 19 (e_un n_19_19) := u_stIT (fun _ _ _ => f_s2_eq) (s_istore (i := .istore_n 2) (len := 1) hq_19 (by decide +kernel) rfl (.inr ⟨2, rfl, rfl, rfl⟩) : e_Sn 19 19 (o_store e_okI 2 20)) t_19_20
noncomputable def n_19_18 : e_Y := u_ald 0 (u_old (o_ald e_fcs 19) n_19_19) n_19_19
theorem t_19_18 : e_Sn 19 18 (e_un n_19_18) := u_aldT (s_iald hq_19 (by decide +kernel) rfl : e_Sn 19 18 (o_ald e_fcs 19)) t_19_19
noncomputable def n_19_17 : e_Y := u_ld f_okI f_l1 n_19_18
theorem t_19_17 : e_Sn 19 17 (e_un n_19_17) := u_ldIT f_l1_eq (s_iload (i := .iload_n 1) (len := 1) hq_19 (by decide +kernel) rfl (.inr ⟨1, rfl, rfl, rfl⟩) : e_Sn 19 17 (o_load e_okI 1 18)) t_19_18
noncomputable def n_19_14 : e_Y := u_getf 2 7 (u_old (o_getf (e_f1 2 7) 17) n_19_17) n_19_17
theorem t_19_14 : e_Sn 19 14 (e_un n_19_14) := u_getfT (s_getf (C := er_2) (T := et_2) (N := 19) (ref := "Plateroomprinter$Engine") (index := 27) (ci := 2) (k := 7) hq_19 ho_19 ⟨rfl, by decide, ei_2, (List.mem_of_getElem? (i := 624) (by decide +kernel)), .inl rfl⟩ (by decide +kernel) rfl : e_Sn 19 14 (o_getf (e_f1 2 7) 17)) t_19_17
noncomputable def n_19_13 : e_Y := u_ld f_okA f_l0 n_19_14
theorem t_19_13 : e_Sn 19 13 (e_un n_19_13) := u_ldAT f_l0_eq (s_aload (i := .aload_n 0) (len := 1) hq_19 (by decide +kernel) rfl (.inr ⟨0, rfl, rfl, rfl⟩) : e_Sn 19 13 (o_load e_okR 0 14)) t_19_14
noncomputable def n_19_7 : e_Y := u_jmp y_ge (u_old2 (o_clt 13 10) 13 n_19_13 (u_at 10)) n_19_13 (u_at 10)
theorem t_19_7 : e_Sn 19 7 (e_un n_19_7) := u_cltT rfl (s_clt (off := (6)) hq_19 (by decide +kernel) rfl rfl : e_Sn 19 7 (o_clt 13 10)) t_19_13 u_atT
noncomputable def n_19_5 : e_Y := u_push (.inl 2147483660) n_19_7
theorem t_19_5 : e_Sn 19 5 (e_un n_19_5) := u_pushT (s_bipush (n := (12)) hq_19 (by decide +kernel) rfl ⟨by decide +kernel, by decide +kernel⟩ : e_Sn 19 5 (o_push (.inl 2147483660) 7)) t_19_7
noncomputable def n_19_4 : e_Y := u_ld f_okI f_l1 n_19_5
theorem t_19_4 : e_Sn 19 4 (e_un n_19_4) := u_ldIT f_l1_eq (s_iload (i := .iload_n 1) (len := 1) hq_19 (by decide +kernel) rfl (.inr ⟨1, rfl, rfl, rfl⟩) : e_Sn 19 4 (o_load e_okI 1 5)) t_19_5
noncomputable def n_19_1 : e_Y := u_if y_ge0 (u_old2 (o_iflt 10 4) 10 (u_at 10) n_19_4) (u_at 10) n_19_4
theorem t_19_1 : e_Sn 19 1 (e_un n_19_1) := u_ifltT rfl (s_iflt (off := (9)) hq_19 (by decide +kernel) rfl rfl : e_Sn 19 1 (o_iflt 10 4)) u_atT t_19_4
noncomputable def n_19_0 : e_Y := u_ld f_okI f_l1 n_19_1
theorem t_19_0 : e_Sn 19 0 (e_un n_19_0) := u_ldIT f_l1_eq (s_iload (i := .iload_n 1) (len := 1) hq_19 (by decide +kernel) rfl (.inr ⟨1, rfl, rfl, rfl⟩) : e_Sn 19 0 (o_load e_okI 1 1)) t_19_1
noncomputable def e_tb_19 : e_X := (e_lf 0 (e_un n_19_0))
theorem e_tk_19 : e_Tb 19 e_tb_19 := (e_lfT t_19_0)
theorem hq_22 : (e_ml[22]?).map (·.2.1) = some prog_3_method_7_code := rfl
theorem ho_22 : (e_ml[22]?).map (·.1.cls) = some "Plateroomprinter$Engine" := rfl
theorem hr_22 : (e_ml[22]?).map (·.2.2.2) = some (some .int) := rfl
noncomputable def n_22_189 : e_Y := u_retI
theorem t_22_189 : e_Sn 22 189 (e_un n_22_189) := u_retIT (s_iret hq_22 hr_22 (by decide +kernel) : e_Sn 22 189 (o_ret e_okI))
noncomputable def n_22_186 : e_Y := u_callV 2 15 3 22 2 n_15_0 n_22_189
theorem t_22_186 : e_Sn 22 186 (e_un n_22_186) := u_callVT rfl (s_callV (ci := 2) (C := er_2) (T := et_2) (N := 19) (index := 129) hq_22 ho_22 hy_15 hp_15 hc_15 hi_15 hd_15 (List.mem_of_getElem? (i := 851) (by decide +kernel)) hs_15 (List.mem_of_getElem? (i := 5) (by decide +kernel)) rfl (by decide +kernel) rfl : e_Sn 22 186 (o_callV (e_s1 2 15 3) 2 189)) t_15_0 t_22_189
noncomputable def n_22_183 : e_Y := u_callV 1 10 2 21 2 n_10_0 n_22_186
theorem t_22_183 : e_Sn 22 183 (e_un n_22_183) := u_callVT rfl (s_callV (ci := 1) (C := er_1) (T := et_1) (N := 4) (index := 116) hq_22 ho_22 hy_10 hp_10 hc_10 hi_10 hd_10 (List.mem_of_getElem? (i := 820) (by decide +kernel)) hs_10 (List.mem_of_getElem? (i := 822) (by decide +kernel)) rfl (by decide +kernel) rfl : e_Sn 22 183 (o_callV (e_s1 1 10 2) 2 186)) t_10_0 t_22_186
noncomputable def n_22_182 : e_Y := u_ld f_okI f_l2 n_22_183
theorem t_22_182 : e_Sn 22 182 (e_un n_22_182) := u_ldIT f_l2_eq (s_iload (i := .iload_n 2) (len := 1) hq_22 (by decide +kernel) rfl (.inr ⟨2, rfl, rfl, rfl⟩) : e_Sn 22 182 (o_load e_okI 2 183)) t_22_183
noncomputable def n_22_179 : e_Y := u_getf 2 1 (u_old (o_getf (e_f1 2 1) 182) n_22_182) n_22_182
theorem t_22_179 : e_Sn 22 179 (e_un n_22_179) := u_getfT (s_getf (C := er_2) (T := et_2) (N := 19) (ref := "Plateroomprinter$Engine") (index := 49) (ci := 2) (k := 1) hq_22 ho_22 ⟨rfl, by decide, ei_2, (List.mem_of_getElem? (i := 617) (by decide +kernel)), .inl rfl⟩ (by decide +kernel) rfl : e_Sn 22 179 (o_getf (e_f1 2 1) 182)) t_22_182
noncomputable def n_22_178 : e_Y := u_ld f_okA f_l0 n_22_179
theorem t_22_178 : e_Sn 22 178 (e_un n_22_178) := u_ldAT f_l0_eq (s_aload (i := .aload_n 0) (len := 1) hq_22 (by decide +kernel) rfl (.inr ⟨0, rfl, rfl, rfl⟩) : e_Sn 22 178 (o_load e_okR 0 179)) t_22_179
noncomputable def n_22_177 : e_Y := u_ld f_okA f_l0 n_22_178
theorem t_22_177 : e_Sn 22 177 (e_un n_22_177) := u_ldAT f_l0_eq (s_aload (i := .aload_n 0) (len := 1) hq_22 (by decide +kernel) rfl (.inr ⟨0, rfl, rfl, rfl⟩) : e_Sn 22 177 (o_load e_okR 0 178)) t_22_178
noncomputable def n_22_176 : e_Y := u_retI
theorem t_22_176 : e_Sn 22 176 (e_un n_22_176) := u_retIT (s_iret hq_22 hr_22 (by decide +kernel) : e_Sn 22 176 (o_ret e_okI))
noncomputable def n_22_173 : e_Y := u_callV 2 19 4 23 2 n_19_0 n_22_176
theorem t_22_173 : e_Sn 22 173 (e_un n_22_173) := u_callVT rfl (s_callV (ci := 2) (C := er_2) (T := et_2) (N := 19) (index := 126) hq_22 ho_22 hy_19 hp_19 hc_19 hi_19 hd_19 (List.mem_of_getElem? (i := 841) (by decide +kernel)) hs_19 (List.mem_of_getElem? (i := 4) (by decide +kernel)) rfl (by decide +kernel) rfl : e_Sn 22 173 (o_callV (e_s1 2 19 4) 2 176)) t_19_0 t_22_176
noncomputable def n_22_172 : e_Y := u_ld f_okI f_l1 n_22_173
theorem t_22_172 : e_Sn 22 172 (e_un n_22_172) := u_ldIT f_l1_eq (s_iload (i := .iload_n 1) (len := 1) hq_22 (by decide +kernel) rfl (.inr ⟨1, rfl, rfl, rfl⟩) : e_Sn 22 172 (o_load e_okI 1 173)) t_22_173
noncomputable def n_22_171 : e_Y := u_ld f_okA f_l0 n_22_172
theorem t_22_171 : e_Sn 22 171 (e_un n_22_171) := u_ldAT f_l0_eq (s_aload (i := .aload_n 0) (len := 1) hq_22 (by decide +kernel) rfl (.inr ⟨0, rfl, rfl, rfl⟩) : e_Sn 22 171 (o_load e_okR 0 172)) t_22_172
noncomputable def n_22_136 : e_Y := u_retI
theorem t_22_136 : e_Sn 22 136 (e_un n_22_136) := u_retIT (s_iret hq_22 hr_22 (by decide +kernel) : e_Sn 22 136 (o_ret e_okI))
noncomputable def n_22_133 : e_Y := u_callV 4 32 4 23 4 n_32_0 n_22_136
theorem t_22_133 : e_Sn 22 133 (e_un n_22_133) := u_callVT rfl (s_callV (ci := 4) (C := er_4) (T := et_4) (N := 5) (index := 119) hq_22 ho_22 hy_32 hp_32 hc_32 hi_32 hd_32 (List.mem_of_getElem? (i := 824) (by decide +kernel)) hs_32 (List.mem_of_getElem? (i := 809) (by decide +kernel)) rfl (by decide +kernel) rfl : e_Sn 22 133 (o_callV (e_s1 4 32 4) 4 136)) t_32_0 t_22_136
noncomputable def n_22_132 : e_Y := u_push (.inl 2147483648) n_22_133
theorem t_22_132 : e_Sn 22 132 (e_un n_22_132) := u_pushT (s_iconst (n := (0)) hq_22 (by decide +kernel) rfl ⟨by decide +kernel, by decide +kernel⟩ : e_Sn 22 132 (o_push (.inl 2147483648) 133)) t_22_133
noncomputable def n_22_129 : e_Y := u_callV 1 10 2 21 2 n_10_0 n_22_132
theorem t_22_129 : e_Sn 22 129 (e_un n_22_129) := u_callVT rfl (s_callV (ci := 1) (C := er_1) (T := et_1) (N := 4) (index := 116) hq_22 ho_22 hy_10 hp_10 hc_10 hi_10 hd_10 (List.mem_of_getElem? (i := 820) (by decide +kernel)) hs_10 (List.mem_of_getElem? (i := 822) (by decide +kernel)) rfl (by decide +kernel) rfl : e_Sn 22 129 (o_callV (e_s1 1 10 2) 2 132)) t_10_0 t_22_132
noncomputable def n_22_128 : e_Y := u_ld f_okI f_l2 n_22_129
theorem t_22_128 : e_Sn 22 128 (e_un n_22_128) := u_ldIT f_l2_eq (s_iload (i := .iload_n 2) (len := 1) hq_22 (by decide +kernel) rfl (.inr ⟨2, rfl, rfl, rfl⟩) : e_Sn 22 128 (o_load e_okI 2 129)) t_22_129
noncomputable def n_22_125 : e_Y := u_getf 2 1 (u_old (o_getf (e_f1 2 1) 128) n_22_128) n_22_128
theorem t_22_125 : e_Sn 22 125 (e_un n_22_125) := u_getfT (s_getf (C := er_2) (T := et_2) (N := 19) (ref := "Plateroomprinter$Engine") (index := 49) (ci := 2) (k := 1) hq_22 ho_22 ⟨rfl, by decide, ei_2, (List.mem_of_getElem? (i := 617) (by decide +kernel)), .inl rfl⟩ (by decide +kernel) rfl : e_Sn 22 125 (o_getf (e_f1 2 1) 128)) t_22_128
noncomputable def n_22_124 : e_Y := u_ld f_okA f_l0 n_22_125
theorem t_22_124 : e_Sn 22 124 (e_un n_22_124) := u_ldAT f_l0_eq (s_aload (i := .aload_n 0) (len := 1) hq_22 (by decide +kernel) rfl (.inr ⟨0, rfl, rfl, rfl⟩) : e_Sn 22 124 (o_load e_okR 0 125)) t_22_125
noncomputable def n_22_123 : e_Y := u_push (.inl 2147483648) n_22_124
theorem t_22_123 : e_Sn 22 123 (e_un n_22_123) := u_pushT (s_iconst (n := (0)) hq_22 (by decide +kernel) rfl ⟨by decide +kernel, by decide +kernel⟩ : e_Sn 22 123 (o_push (.inl 2147483648) 124)) t_22_124
noncomputable def n_22_120 : e_Y := u_getf 11 0 (u_old (o_getf (e_f1 11 0) 123) n_22_123) n_22_123
theorem t_22_120 : e_Sn 22 120 (e_un n_22_120) := u_getfT (s_getf (C := er_11) (T := et_11) (N := 15) (ref := "Plateroomprinter$World") (index := 93) (ci := 11) (k := 0) hq_22 ho_22 ⟨rfl, by decide, ei_11, (List.mem_of_getElem? (i := 460) (by decide +kernel)), .inl rfl⟩ (by decide +kernel) rfl : e_Sn 22 120 (o_getf (e_f1 11 0) 123)) t_22_123
noncomputable def n_22_117 : e_Y := u_getf 2 0 (u_old (o_getf (e_f1 2 0) 120) n_22_120) n_22_120
theorem t_22_117 : e_Sn 22 117 (e_un n_22_117) := u_getfT (s_getf (C := er_2) (T := et_2) (N := 19) (ref := "Plateroomprinter$Engine") (index := 45) (ci := 2) (k := 0) hq_22 ho_22 ⟨rfl, by decide, ei_2, (List.mem_of_getElem? (i := 616) (by decide +kernel)), .inl rfl⟩ (by decide +kernel) rfl : e_Sn 22 117 (o_getf (e_f1 2 0) 120)) t_22_120
noncomputable def n_22_116 : e_Y := u_ld f_okA f_l0 n_22_117
theorem t_22_116 : e_Sn 22 116 (e_un n_22_116) := u_ldAT f_l0_eq (s_aload (i := .aload_n 0) (len := 1) hq_22 (by decide +kernel) rfl (.inr ⟨0, rfl, rfl, rfl⟩) : e_Sn 22 116 (o_load e_okR 0 117)) t_22_117
noncomputable def n_22_80 : e_Y := u_tab (o_switch 2147483648 [116, 177, 137, 158, 171] 190)
theorem t_22_80 : e_Sn 22 80 (e_un n_22_80) := u_tabT (s_switch (dflt := (110)) (low := (0)) (hi := (4)) (offs := #[(36), (97), (57), (78), (91)]) (len := 36) hq_22 (by decide +kernel) rfl rfl rfl rfl : e_Sn 22 80 (o_switch 2147483648 [116, 177, 137, 158, 171] 190))
noncomputable def n_22_77 : e_Y := u_callV 1 9 2 21 2 n_9_0 n_22_80
theorem t_22_77 : e_Sn 22 77 (e_un n_22_77) := u_callVT rfl (s_callV (ci := 1) (C := er_1) (T := et_1) (N := 4) (index := 112) hq_22 ho_22 hy_9 hp_9 hc_9 hi_9 hd_9 (List.mem_of_getElem? (i := 816) (by decide +kernel)) hs_9 (List.mem_of_getElem? (i := 818) (by decide +kernel)) rfl (by decide +kernel) rfl : e_Sn 22 77 (o_callV (e_s1 1 9 2) 2 80)) t_9_0 t_22_80
noncomputable def n_22_76 : e_Y := u_ld f_okI f_l2 n_22_77
theorem t_22_76 : e_Sn 22 76 (e_un n_22_76) := u_ldIT f_l2_eq (s_iload (i := .iload_n 2) (len := 1) hq_22 (by decide +kernel) rfl (.inr ⟨2, rfl, rfl, rfl⟩) : e_Sn 22 76 (o_load e_okI 2 77)) t_22_77
noncomputable def n_22_73 : e_Y := u_getf 2 1 (u_old (o_getf (e_f1 2 1) 76) n_22_76) n_22_76
theorem t_22_73 : e_Sn 22 73 (e_un n_22_73) := u_getfT (s_getf (C := er_2) (T := et_2) (N := 19) (ref := "Plateroomprinter$Engine") (index := 49) (ci := 2) (k := 1) hq_22 ho_22 ⟨rfl, by decide, ei_2, (List.mem_of_getElem? (i := 617) (by decide +kernel)), .inl rfl⟩ (by decide +kernel) rfl : e_Sn 22 73 (o_getf (e_f1 2 1) 76)) t_22_76
noncomputable def n_22_72 : e_Y := u_ld f_okA f_l0 n_22_73
theorem t_22_72 : e_Sn 22 72 (e_un n_22_72) := u_ldAT f_l0_eq (s_aload (i := .aload_n 0) (len := 1) hq_22 (by decide +kernel) rfl (.inr ⟨0, rfl, rfl, rfl⟩) : e_Sn 22 72 (o_load e_okR 0 73)) t_22_73
noncomputable def n_22_69 : e_Y := u_old (o_putf (e_f1 2 15) e_okI 72) n_22_72
theorem t_22_69 : e_Sn 22 69 (e_un n_22_69) := u_oldT (s_putf (ty0 := ey_2) (ok := e_okI) (C := er_2) (T := et_2) (N := 19) (ref := "Plateroomprinter$Engine") (index := 60) (ci := 2) (k := 15) hq_22 ho_22 ⟨rfl, by decide, ei_2, (List.mem_of_getElem? (i := 632) (by decide +kernel)), .inl rfl⟩ eo_2 en_2 e_oksI (.inl rfl) (by decide +kernel) rfl : e_Sn 22 69 (o_putf (e_f1 2 15) e_okI 72)) t_22_72 (e_cg_putf (e_f1 2 15) e_okI)
noncomputable def n_22_68 : e_Y := u_bin a_iadd (u_old (o_iadd 69) n_22_69) n_22_69
theorem t_22_68 : e_Sn 22 68 (e_un n_22_68) := u_iaddT (s_iadd hq_22 (by decide +kernel) rfl : e_Sn 22 68 (o_iadd 69)) t_22_69
noncomputable def n_22_67 : e_Y := u_push (.inl 2147483649) n_22_68
theorem t_22_67 : e_Sn 22 67 (e_un n_22_67) := u_pushT (s_iconst (n := (1)) hq_22 (by decide +kernel) rfl ⟨by decide +kernel, by decide +kernel⟩ : e_Sn 22 67 (o_push (.inl 2147483649) 68)) t_22_68
noncomputable def n_22_64 : e_Y := u_getf 2 15 (u_old (o_getf (e_f1 2 15) 67) n_22_67) n_22_67
theorem t_22_64 : e_Sn 22 64 (e_un n_22_64) := u_getfT (s_getf (C := er_2) (T := et_2) (N := 19) (ref := "Plateroomprinter$Engine") (index := 60) (ci := 2) (k := 15) hq_22 ho_22 ⟨rfl, by decide, ei_2, (List.mem_of_getElem? (i := 632) (by decide +kernel)), .inl rfl⟩ (by decide +kernel) rfl : e_Sn 22 64 (o_getf (e_f1 2 15) 67)) t_22_67
noncomputable def n_22_63 : e_Y := u_old (o_dup 64) n_22_64
theorem t_22_63 : e_Sn 22 63 (e_un n_22_63) := u_oldT (s_dup hq_22 (by decide +kernel) rfl : e_Sn 22 63 (o_dup 64)) t_22_64 e_cg_dup
noncomputable def n_22_62 : e_Y := u_ld f_okA f_l0 n_22_63
theorem t_22_62 : e_Sn 22 62 (e_un n_22_62) := u_ldAT f_l0_eq (s_aload (i := .aload_n 0) (len := 1) hq_22 (by decide +kernel) rfl (.inr ⟨0, rfl, rfl, rfl⟩) : e_Sn 22 62 (o_load e_okR 0 63)) t_22_63
noncomputable def n_22_59 : e_Y := u_old (o_putf (e_f1 2 14) e_okI 62) n_22_62
theorem t_22_59 : e_Sn 22 59 (e_un n_22_59) := u_oldT (s_putf (ty0 := ey_2) (ok := e_okI) (C := er_2) (T := et_2) (N := 19) (ref := "Plateroomprinter$Engine") (index := 57) (ci := 2) (k := 14) hq_22 ho_22 ⟨rfl, by decide, ei_2, (List.mem_of_getElem? (i := 631) (by decide +kernel)), .inl rfl⟩ eo_2 en_2 e_oksI (.inl rfl) (by decide +kernel) rfl : e_Sn 22 59 (o_putf (e_f1 2 14) e_okI 62)) t_22_62 (e_cg_putf (e_f1 2 14) e_okI)
noncomputable def n_22_58 : e_Y := u_bin a_iadd (u_old (o_iadd 59) n_22_59) n_22_59
theorem t_22_58 : e_Sn 22 58 (e_un n_22_58) := u_iaddT (s_iadd hq_22 (by decide +kernel) rfl : e_Sn 22 58 (o_iadd 59)) t_22_59
noncomputable def n_22_57 : e_Y := u_push (.inl 2147483649) n_22_58
theorem t_22_57 : e_Sn 22 57 (e_un n_22_57) := u_pushT (s_iconst (n := (1)) hq_22 (by decide +kernel) rfl ⟨by decide +kernel, by decide +kernel⟩ : e_Sn 22 57 (o_push (.inl 2147483649) 58)) t_22_58
noncomputable def n_22_54 : e_Y := u_getf 2 14 (u_old (o_getf (e_f1 2 14) 57) n_22_57) n_22_57
theorem t_22_54 : e_Sn 22 54 (e_un n_22_54) := u_getfT (s_getf (C := er_2) (T := et_2) (N := 19) (ref := "Plateroomprinter$Engine") (index := 57) (ci := 2) (k := 14) hq_22 ho_22 ⟨rfl, by decide, ei_2, (List.mem_of_getElem? (i := 631) (by decide +kernel)), .inl rfl⟩ (by decide +kernel) rfl : e_Sn 22 54 (o_getf (e_f1 2 14) 57)) t_22_57
noncomputable def n_22_53 : e_Y := u_old (o_dup 54) n_22_54
theorem t_22_53 : e_Sn 22 53 (e_un n_22_53) := u_oldT (s_dup hq_22 (by decide +kernel) rfl : e_Sn 22 53 (o_dup 54)) t_22_54 e_cg_dup
noncomputable def n_22_52 : e_Y := u_ld f_okA f_l0 n_22_53
theorem t_22_52 : e_Sn 22 52 (e_un n_22_52) := u_ldAT f_l0_eq (s_aload (i := .aload_n 0) (len := 1) hq_22 (by decide +kernel) rfl (.inr ⟨0, rfl, rfl, rfl⟩) : e_Sn 22 52 (o_load e_okR 0 53)) t_22_53
noncomputable def n_22_49 : e_Y := u_callV 2 21 2 21 2 n_21_0 n_22_52
theorem t_22_49 : e_Sn 22 49 (e_un n_22_49) := u_callVT rfl (s_callV (ci := 2) (C := er_2) (T := et_2) (N := 19) (index := 89) hq_22 ho_22 hy_21 hp_21 hc_21 hi_21 hd_21 (List.mem_of_getElem? (i := 797) (by decide +kernel)) hs_21 (List.mem_of_getElem? (i := 2) (by decide +kernel)) rfl (by decide +kernel) rfl : e_Sn 22 49 (o_callV (e_s1 2 21 2) 2 52)) t_21_0 t_22_52
noncomputable def n_22_48 : e_Y := u_ld f_okI f_l1 n_22_49
theorem t_22_48 : e_Sn 22 48 (e_un n_22_48) := u_ldIT f_l1_eq (s_iload (i := .iload_n 1) (len := 1) hq_22 (by decide +kernel) rfl (.inr ⟨1, rfl, rfl, rfl⟩) : e_Sn 22 48 (o_load e_okI 1 49)) t_22_49
noncomputable def n_22_47 : e_Y := u_ld f_okA f_l0 n_22_48
theorem t_22_47 : e_Sn 22 47 (e_un n_22_47) := u_ldAT f_l0_eq (s_aload (i := .aload_n 0) (len := 1) hq_22 (by decide +kernel) rfl (.inr ⟨0, rfl, rfl, rfl⟩) : e_Sn 22 47 (o_load e_okR 0 48)) t_22_48
noncomputable def n_22_46 : e_Y := u_old (o_ast 0 e_okI 47) n_22_47
theorem t_22_46 : e_Sn 22 46 (e_un n_22_46) := u_oldT (s_iast hq_22 (by decide +kernel) rfl : e_Sn 22 46 (o_ast 0 e_okI 47)) t_22_47 (e_cg_ast 0 e_okI)
noncomputable def n_22_45 : e_Y := u_bin a_iadd (u_old (o_iadd 46) n_22_46) n_22_46
theorem t_22_45 : e_Sn 22 45 (e_un n_22_45) := u_iaddT (s_iadd hq_22 (by decide +kernel) rfl : e_Sn 22 45 (o_iadd 46)) t_22_46
noncomputable def n_22_44 : e_Y := u_push (.inl 2147483649) n_22_45
theorem t_22_44 : e_Sn 22 44 (e_un n_22_44) := u_pushT (s_iconst (n := (1)) hq_22 (by decide +kernel) rfl ⟨by decide +kernel, by decide +kernel⟩ : e_Sn 22 44 (o_push (.inl 2147483649) 45)) t_22_45
noncomputable def n_22_43 : e_Y := u_ld f_okI f_l2 n_22_44
theorem t_22_43 : e_Sn 22 43 (e_un n_22_43) := u_ldIT f_l2_eq (s_iload (i := .iload_n 2) (len := 1) hq_22 (by decide +kernel) rfl (.inr ⟨2, rfl, rfl, rfl⟩) : e_Sn 22 43 (o_load e_okI 2 44)) t_22_44
noncomputable def n_22_42 : e_Y := u_ld f_okI f_l1 n_22_43
theorem t_22_42 : e_Sn 22 42 (e_un n_22_42) := u_ldIT f_l1_eq (s_iload (i := .iload_n 1) (len := 1) hq_22 (by decide +kernel) rfl (.inr ⟨1, rfl, rfl, rfl⟩) : e_Sn 22 42 (o_load e_okI 1 43)) t_22_43
noncomputable def n_22_39 : e_Y := u_getf 2 7 (u_old (o_getf (e_f1 2 7) 42) n_22_42) n_22_42
theorem t_22_39 : e_Sn 22 39 (e_un n_22_39) := u_getfT (s_getf (C := er_2) (T := et_2) (N := 19) (ref := "Plateroomprinter$Engine") (index := 27) (ci := 2) (k := 7) hq_22 ho_22 ⟨rfl, by decide, ei_2, (List.mem_of_getElem? (i := 624) (by decide +kernel)), .inl rfl⟩ (by decide +kernel) rfl : e_Sn 22 39 (o_getf (e_f1 2 7) 42)) t_22_42
noncomputable def n_22_38 : e_Y := u_ld f_okA f_l0 n_22_39
theorem t_22_38 : e_Sn 22 38 (e_un n_22_38) := u_ldAT f_l0_eq (s_aload (i := .aload_n 0) (len := 1) hq_22 (by decide +kernel) rfl (.inr ⟨0, rfl, rfl, rfl⟩) : e_Sn 22 38 (o_load e_okR 0 39)) t_22_39
noncomputable def n_22_37 : e_Y := u_old (o_ast 0 e_okI 38) n_22_38
theorem t_22_37 : e_Sn 22 37 (e_un n_22_37) := u_oldT (s_iast hq_22 (by decide +kernel) rfl : e_Sn 22 37 (o_ast 0 e_okI 38)) t_22_38 (e_cg_ast 0 e_okI)
noncomputable def n_22_36 : e_Y := u_ld f_okI f_l2 n_22_37
theorem t_22_36 : e_Sn 22 36 (e_un n_22_36) := u_ldIT f_l2_eq (s_iload (i := .iload_n 2) (len := 1) hq_22 (by decide +kernel) rfl (.inr ⟨2, rfl, rfl, rfl⟩) : e_Sn 22 36 (o_load e_okI 2 37)) t_22_37
noncomputable def n_22_35 : e_Y := u_ld f_okI f_l1 n_22_36
theorem t_22_35 : e_Sn 22 35 (e_un n_22_35) := u_ldIT f_l1_eq (s_iload (i := .iload_n 1) (len := 1) hq_22 (by decide +kernel) rfl (.inr ⟨1, rfl, rfl, rfl⟩) : e_Sn 22 35 (o_load e_okI 1 36)) t_22_36
noncomputable def n_22_32 : e_Y := u_getf 2 8 (u_old (o_getf (e_f1 2 8) 35) n_22_35) n_22_35
theorem t_22_32 : e_Sn 22 32 (e_un n_22_32) := u_getfT (s_getf (C := er_2) (T := et_2) (N := 19) (ref := "Plateroomprinter$Engine") (index := 30) (ci := 2) (k := 8) hq_22 ho_22 ⟨rfl, by decide, ei_2, (List.mem_of_getElem? (i := 625) (by decide +kernel)), .inl rfl⟩ (by decide +kernel) rfl : e_Sn 22 32 (o_getf (e_f1 2 8) 35)) t_22_35
noncomputable def n_22_31 : e_Y := u_ld f_okA f_l0 n_22_32
theorem t_22_31 : e_Sn 22 31 (e_un n_22_31) := u_ldAT f_l0_eq (s_aload (i := .aload_n 0) (len := 1) hq_22 (by decide +kernel) rfl (.inr ⟨0, rfl, rfl, rfl⟩) : e_Sn 22 31 (o_load e_okR 0 32)) t_22_32
noncomputable def n_22_30 : e_Y := u_st f_okI f_s2 n_22_31
theorem t_22_30 : e_Sn 22 30 (e_un n_22_30) := u_stIT (fun _ _ _ => f_s2_eq) (s_istore (i := .istore_n 2) (len := 1) hq_22 (by decide +kernel) rfl (.inr ⟨2, rfl, rfl, rfl⟩) : e_Sn 22 30 (o_store e_okI 2 31)) t_22_31
noncomputable def n_22_29 : e_Y := u_ald 0 (u_old (o_ald e_fcs 30) n_22_30) n_22_30
theorem t_22_29 : e_Sn 22 29 (e_un n_22_29) := u_aldT (s_iald hq_22 (by decide +kernel) rfl : e_Sn 22 29 (o_ald e_fcs 30)) t_22_30
noncomputable def n_22_28 : e_Y := u_ld f_okI f_l1 n_22_29
theorem t_22_28 : e_Sn 22 28 (e_un n_22_28) := u_ldIT f_l1_eq (s_iload (i := .iload_n 1) (len := 1) hq_22 (by decide +kernel) rfl (.inr ⟨1, rfl, rfl, rfl⟩) : e_Sn 22 28 (o_load e_okI 1 29)) t_22_29
noncomputable def n_22_25 : e_Y := u_getf 2 7 (u_old (o_getf (e_f1 2 7) 28) n_22_28) n_22_28
theorem t_22_25 : e_Sn 22 25 (e_un n_22_25) := u_getfT (s_getf (C := er_2) (T := et_2) (N := 19) (ref := "Plateroomprinter$Engine") (index := 27) (ci := 2) (k := 7) hq_22 ho_22 ⟨rfl, by decide, ei_2, (List.mem_of_getElem? (i := 624) (by decide +kernel)), .inl rfl⟩ (by decide +kernel) rfl : e_Sn 22 25 (o_getf (e_f1 2 7) 28)) t_22_28
noncomputable def n_22_24 : e_Y := u_ld f_okA f_l0 n_22_25
theorem t_22_24 : e_Sn 22 24 (e_un n_22_24) := u_ldAT f_l0_eq (s_aload (i := .aload_n 0) (len := 1) hq_22 (by decide +kernel) rfl (.inr ⟨0, rfl, rfl, rfl⟩) : e_Sn 22 24 (o_load e_okR 0 25)) t_22_25
noncomputable def n_22_19 : e_Y := u_jmp y_ge (u_old2 (o_clt 24 22) 24 n_22_24 (u_at 22)) n_22_24 (u_at 22)
theorem t_22_19 : e_Sn 22 19 (e_un n_22_19) := u_cltT rfl (s_clt (off := (5)) hq_22 (by decide +kernel) rfl rfl : e_Sn 22 19 (o_clt 24 22)) t_22_24 u_atT
noncomputable def n_22_17 : e_Y := u_push (.inl 2147483660) n_22_19
theorem t_22_17 : e_Sn 22 17 (e_un n_22_17) := u_pushT (s_bipush (n := (12)) hq_22 (by decide +kernel) rfl ⟨by decide +kernel, by decide +kernel⟩ : e_Sn 22 17 (o_push (.inl 2147483660) 19)) t_22_19
noncomputable def n_22_16 : e_Y := u_ld f_okI f_l1 n_22_17
theorem t_22_16 : e_Sn 22 16 (e_un n_22_16) := u_ldIT f_l1_eq (s_iload (i := .iload_n 1) (len := 1) hq_22 (by decide +kernel) rfl (.inr ⟨1, rfl, rfl, rfl⟩) : e_Sn 22 16 (o_load e_okI 1 17)) t_22_17
noncomputable def n_22_13 : e_Y := u_if y_ge0 (u_old2 (o_iflt 22 16) 22 (u_at 22) n_22_16) (u_at 22) n_22_16
theorem t_22_13 : e_Sn 22 13 (e_un n_22_13) := u_ifltT rfl (s_iflt (off := (9)) hq_22 (by decide +kernel) rfl rfl : e_Sn 22 13 (o_iflt 22 16)) u_atT t_22_16
noncomputable def n_22_12 : e_Y := u_ld f_okI f_l1 n_22_13
theorem t_22_12 : e_Sn 22 12 (e_un n_22_12) := u_ldIT f_l1_eq (s_iload (i := .iload_n 1) (len := 1) hq_22 (by decide +kernel) rfl (.inr ⟨1, rfl, rfl, rfl⟩) : e_Sn 22 12 (o_load e_okI 1 13)) t_22_13
noncomputable def n_22_9 : e_Y := u_old (o_putf (e_f1 2 16) e_okI 12) n_22_12
theorem t_22_9 : e_Sn 22 9 (e_un n_22_9) := u_oldT (s_putf (ty0 := ey_2) (ok := e_okI) (C := er_2) (T := et_2) (N := 19) (ref := "Plateroomprinter$Engine") (index := 109) (ci := 2) (k := 16) hq_22 ho_22 ⟨rfl, by decide, ei_2, (List.mem_of_getElem? (i := 634) (by decide +kernel)), .inl rfl⟩ eo_2 en_2 e_oksI (.inl rfl) (by decide +kernel) rfl : e_Sn 22 9 (o_putf (e_f1 2 16) e_okI 12)) t_22_12 (e_cg_putf (e_f1 2 16) e_okI)
noncomputable def n_22_8 : e_Y := u_push (.inl 2147483647) n_22_9
theorem t_22_8 : e_Sn 22 8 (e_un n_22_8) := u_pushT (s_iconst (n := (-1)) hq_22 (by decide +kernel) rfl ⟨by decide +kernel, by decide +kernel⟩ : e_Sn 22 8 (o_push (.inl 2147483647) 9)) t_22_9
noncomputable def n_22_7 : e_Y := u_ld f_okA f_l0 n_22_8
theorem t_22_7 : e_Sn 22 7 (e_un n_22_7) := u_ldAT f_l0_eq (s_aload (i := .aload_n 0) (len := 1) hq_22 (by decide +kernel) rfl (.inr ⟨0, rfl, rfl, rfl⟩) : e_Sn 22 7 (o_load e_okR 0 8)) t_22_8
noncomputable def n_22_6 : e_Y := u_st f_okI f_s1 n_22_7
theorem t_22_6 : e_Sn 22 6 (e_un n_22_6) := u_stIT (fun _ _ _ => f_s1_eq) (s_istore (i := .istore_n 1) (len := 1) hq_22 (by decide +kernel) rfl (.inr ⟨1, rfl, rfl, rfl⟩) : e_Sn 22 6 (o_store e_okI 1 7)) t_22_7
noncomputable def n_22_5 : e_Y := u_bin a_isub (u_old (o_isub 6) n_22_6) n_22_6
theorem t_22_5 : e_Sn 22 5 (e_un n_22_5) := u_isubT (s_isub hq_22 (by decide +kernel) rfl : e_Sn 22 5 (o_isub 6)) t_22_6
noncomputable def n_22_4 : e_Y := u_push (.inl 2147483649) n_22_5
theorem t_22_4 : e_Sn 22 4 (e_un n_22_4) := u_pushT (s_iconst (n := (1)) hq_22 (by decide +kernel) rfl ⟨by decide +kernel, by decide +kernel⟩ : e_Sn 22 4 (o_push (.inl 2147483649) 5)) t_22_5
noncomputable def n_22_1 : e_Y := u_getf 2 13 (u_old (o_getf (e_f1 2 13) 4) n_22_4) n_22_4
theorem t_22_1 : e_Sn 22 1 (e_un n_22_1) := u_getfT (s_getf (C := er_2) (T := et_2) (N := 19) (ref := "Plateroomprinter$Engine") (index := 53) (ci := 2) (k := 13) hq_22 ho_22 ⟨rfl, by decide, ei_2, (List.mem_of_getElem? (i := 630) (by decide +kernel)), .inl rfl⟩ (by decide +kernel) rfl : e_Sn 22 1 (o_getf (e_f1 2 13) 4)) t_22_4
noncomputable def n_22_0 : e_Y := u_ld f_okA f_l0 n_22_1
theorem t_22_0 : e_Sn 22 0 (e_un n_22_0) := u_ldAT f_l0_eq (s_aload (i := .aload_n 0) (len := 1) hq_22 (by decide +kernel) rfl (.inr ⟨0, rfl, rfl, rfl⟩) : e_Sn 22 0 (o_load e_okR 0 1)) t_22_1
noncomputable def e_tb_22 : e_X := (e_br 171 (e_br 116 (e_lf 0 (e_un n_22_0)) (e_lf 116 (e_un n_22_116))) (e_br 177 (e_lf 171 (e_un n_22_171)) (e_lf 177 (e_un n_22_177))))
theorem e_tk_22 : e_Tb 22 e_tb_22 := (e_brT (e_brT (e_lfT t_22_0) (e_lfT t_22_116)) (e_brT (e_lfT t_22_171) (e_lfT t_22_177)))
theorem hq_24 : (e_ml[24]?).map (·.2.1) = some prog_3_method_3_code := rfl
theorem ho_24 : (e_ml[24]?).map (·.1.cls) = some "Plateroomprinter$Engine" := rfl
theorem hr_24 : (e_ml[24]?).map (·.2.2.2) = some none := rfl
noncomputable def n_24_43 : e_Y := u_tab (o_retv)
theorem t_24_43 : e_Sn 24 43 (e_un n_24_43) := u_tabT (s_vret hq_24 hr_24 (by decide +kernel) : e_Sn 24 43 (o_retv))
noncomputable def n_24_40 : e_Y := u_old (o_putf (e_f1 11 14) e_okI 43) n_24_43
theorem t_24_40 : e_Sn 24 40 (e_un n_24_40) := u_oldT (s_putf (ty0 := ey_11) (ok := e_okI) (C := er_11) (T := et_11) (N := 15) (ref := "Plateroomprinter$World") (index := 83) (ci := 11) (k := 14) hq_24 ho_24 ⟨rfl, by decide, ei_11, (List.mem_of_getElem? (i := 501) (by decide +kernel)), .inl rfl⟩ eo_11 en_11 e_oksI (.inl rfl) (by decide +kernel) rfl : e_Sn 24 40 (o_putf (e_f1 11 14) e_okI 43)) t_24_43 (e_cg_putf (e_f1 11 14) e_okI)
noncomputable def n_24_39 : e_Y := u_bin a_iadd (u_old (o_iadd 40) n_24_40) n_24_40
theorem t_24_39 : e_Sn 24 39 (e_un n_24_39) := u_iaddT (s_iadd hq_24 (by decide +kernel) rfl : e_Sn 24 39 (o_iadd 40)) t_24_40
noncomputable def n_24_36 : e_Y := u_getf 2 15 (u_old (o_getf (e_f1 2 15) 39) n_24_39) n_24_39
theorem t_24_36 : e_Sn 24 36 (e_un n_24_36) := u_getfT (s_getf (C := er_2) (T := et_2) (N := 19) (ref := "Plateroomprinter$Engine") (index := 60) (ci := 2) (k := 15) hq_24 ho_24 ⟨rfl, by decide, ei_2, (List.mem_of_getElem? (i := 632) (by decide +kernel)), .inl rfl⟩ (by decide +kernel) rfl : e_Sn 24 36 (o_getf (e_f1 2 15) 39)) t_24_39
noncomputable def n_24_35 : e_Y := u_ld f_okA f_l0 n_24_36
theorem t_24_35 : e_Sn 24 35 (e_un n_24_35) := u_ldAT f_l0_eq (s_aload (i := .aload_n 0) (len := 1) hq_24 (by decide +kernel) rfl (.inr ⟨0, rfl, rfl, rfl⟩) : e_Sn 24 35 (o_load e_okR 0 36)) t_24_36
noncomputable def n_24_32 : e_Y := u_getf 11 14 (u_old (o_getf (e_f1 11 14) 35) n_24_35) n_24_35
theorem t_24_32 : e_Sn 24 32 (e_un n_24_32) := u_getfT (s_getf (C := er_11) (T := et_11) (N := 15) (ref := "Plateroomprinter$World") (index := 83) (ci := 11) (k := 14) hq_24 ho_24 ⟨rfl, by decide, ei_11, (List.mem_of_getElem? (i := 501) (by decide +kernel)), .inl rfl⟩ (by decide +kernel) rfl : e_Sn 24 32 (o_getf (e_f1 11 14) 35)) t_24_35
noncomputable def n_24_31 : e_Y := u_old (o_dup 32) n_24_32
theorem t_24_31 : e_Sn 24 31 (e_un n_24_31) := u_oldT (s_dup hq_24 (by decide +kernel) rfl : e_Sn 24 31 (o_dup 32)) t_24_32 e_cg_dup
noncomputable def n_24_28 : e_Y := u_getf 2 0 (u_old (o_getf (e_f1 2 0) 31) n_24_31) n_24_31
theorem t_24_28 : e_Sn 24 28 (e_un n_24_28) := u_getfT (s_getf (C := er_2) (T := et_2) (N := 19) (ref := "Plateroomprinter$Engine") (index := 45) (ci := 2) (k := 0) hq_24 ho_24 ⟨rfl, by decide, ei_2, (List.mem_of_getElem? (i := 616) (by decide +kernel)), .inl rfl⟩ (by decide +kernel) rfl : e_Sn 24 28 (o_getf (e_f1 2 0) 31)) t_24_31
noncomputable def n_24_27 : e_Y := u_ld f_okA f_l0 n_24_28
theorem t_24_27 : e_Sn 24 27 (e_un n_24_27) := u_ldAT f_l0_eq (s_aload (i := .aload_n 0) (len := 1) hq_24 (by decide +kernel) rfl (.inr ⟨0, rfl, rfl, rfl⟩) : e_Sn 24 27 (o_load e_okR 0 28)) t_24_28
noncomputable def n_24_24 : e_Y := u_old (o_putf (e_f1 11 13) e_okI 27) n_24_27
theorem t_24_24 : e_Sn 24 24 (e_un n_24_24) := u_oldT (s_putf (ty0 := ey_11) (ok := e_okI) (C := er_11) (T := et_11) (N := 15) (ref := "Plateroomprinter$World") (index := 80) (ci := 11) (k := 13) hq_24 ho_24 ⟨rfl, by decide, ei_11, (List.mem_of_getElem? (i := 498) (by decide +kernel)), .inl rfl⟩ eo_11 en_11 e_oksI (.inl rfl) (by decide +kernel) rfl : e_Sn 24 24 (o_putf (e_f1 11 13) e_okI 27)) t_24_27 (e_cg_putf (e_f1 11 13) e_okI)
noncomputable def n_24_21 : e_Y := u_getf 2 14 (u_old (o_getf (e_f1 2 14) 24) n_24_24) n_24_24
theorem t_24_21 : e_Sn 24 21 (e_un n_24_21) := u_getfT (s_getf (C := er_2) (T := et_2) (N := 19) (ref := "Plateroomprinter$Engine") (index := 57) (ci := 2) (k := 14) hq_24 ho_24 ⟨rfl, by decide, ei_2, (List.mem_of_getElem? (i := 631) (by decide +kernel)), .inl rfl⟩ (by decide +kernel) rfl : e_Sn 24 21 (o_getf (e_f1 2 14) 24)) t_24_24
noncomputable def n_24_20 : e_Y := u_ld f_okA f_l0 n_24_21
theorem t_24_20 : e_Sn 24 20 (e_un n_24_20) := u_ldAT f_l0_eq (s_aload (i := .aload_n 0) (len := 1) hq_24 (by decide +kernel) rfl (.inr ⟨0, rfl, rfl, rfl⟩) : e_Sn 24 20 (o_load e_okR 0 21)) t_24_21
noncomputable def n_24_17 : e_Y := u_getf 2 0 (u_old (o_getf (e_f1 2 0) 20) n_24_20) n_24_20
theorem t_24_17 : e_Sn 24 17 (e_un n_24_17) := u_getfT (s_getf (C := er_2) (T := et_2) (N := 19) (ref := "Plateroomprinter$Engine") (index := 45) (ci := 2) (k := 0) hq_24 ho_24 ⟨rfl, by decide, ei_2, (List.mem_of_getElem? (i := 616) (by decide +kernel)), .inl rfl⟩ (by decide +kernel) rfl : e_Sn 24 17 (o_getf (e_f1 2 0) 20)) t_24_20
noncomputable def n_24_16 : e_Y := u_ld f_okA f_l0 n_24_17
theorem t_24_16 : e_Sn 24 16 (e_un n_24_16) := u_ldAT f_l0_eq (s_aload (i := .aload_n 0) (len := 1) hq_24 (by decide +kernel) rfl (.inr ⟨0, rfl, rfl, rfl⟩) : e_Sn 24 16 (o_load e_okR 0 17)) t_24_17
noncomputable def n_24_13 : e_Y := u_old (o_putf (e_f1 11 12) e_okI 16) n_24_16
theorem t_24_13 : e_Sn 24 13 (e_un n_24_13) := u_oldT (s_putf (ty0 := ey_11) (ok := e_okI) (C := er_11) (T := et_11) (N := 15) (ref := "Plateroomprinter$World") (index := 75) (ci := 11) (k := 12) hq_24 ho_24 ⟨rfl, by decide, ei_11, (List.mem_of_getElem? (i := 495) (by decide +kernel)), .inl rfl⟩ eo_11 en_11 e_oksI (.inl rfl) (by decide +kernel) rfl : e_Sn 24 13 (o_putf (e_f1 11 12) e_okI 16)) t_24_16 (e_cg_putf (e_f1 11 12) e_okI)
noncomputable def n_24_12 : e_Y := u_bin a_iadd (u_old (o_iadd 13) n_24_13) n_24_13
theorem t_24_12 : e_Sn 24 12 (e_un n_24_12) := u_iaddT (s_iadd hq_24 (by decide +kernel) rfl : e_Sn 24 12 (o_iadd 13)) t_24_13
noncomputable def n_24_9 : e_Y := u_getf 2 14 (u_old (o_getf (e_f1 2 14) 12) n_24_12) n_24_12
theorem t_24_9 : e_Sn 24 9 (e_un n_24_9) := u_getfT (s_getf (C := er_2) (T := et_2) (N := 19) (ref := "Plateroomprinter$Engine") (index := 57) (ci := 2) (k := 14) hq_24 ho_24 ⟨rfl, by decide, ei_2, (List.mem_of_getElem? (i := 631) (by decide +kernel)), .inl rfl⟩ (by decide +kernel) rfl : e_Sn 24 9 (o_getf (e_f1 2 14) 12)) t_24_12
noncomputable def n_24_8 : e_Y := u_ld f_okA f_l0 n_24_9
theorem t_24_8 : e_Sn 24 8 (e_un n_24_8) := u_ldAT f_l0_eq (s_aload (i := .aload_n 0) (len := 1) hq_24 (by decide +kernel) rfl (.inr ⟨0, rfl, rfl, rfl⟩) : e_Sn 24 8 (o_load e_okR 0 9)) t_24_9
noncomputable def n_24_5 : e_Y := u_getf 11 12 (u_old (o_getf (e_f1 11 12) 8) n_24_8) n_24_8
theorem t_24_5 : e_Sn 24 5 (e_un n_24_5) := u_getfT (s_getf (C := er_11) (T := et_11) (N := 15) (ref := "Plateroomprinter$World") (index := 75) (ci := 11) (k := 12) hq_24 ho_24 ⟨rfl, by decide, ei_11, (List.mem_of_getElem? (i := 495) (by decide +kernel)), .inl rfl⟩ (by decide +kernel) rfl : e_Sn 24 5 (o_getf (e_f1 11 12) 8)) t_24_8
noncomputable def n_24_4 : e_Y := u_old (o_dup 5) n_24_5
theorem t_24_4 : e_Sn 24 4 (e_un n_24_4) := u_oldT (s_dup hq_24 (by decide +kernel) rfl : e_Sn 24 4 (o_dup 5)) t_24_5 e_cg_dup
noncomputable def n_24_1 : e_Y := u_getf 2 0 (u_old (o_getf (e_f1 2 0) 4) n_24_4) n_24_4
theorem t_24_1 : e_Sn 24 1 (e_un n_24_1) := u_getfT (s_getf (C := er_2) (T := et_2) (N := 19) (ref := "Plateroomprinter$Engine") (index := 45) (ci := 2) (k := 0) hq_24 ho_24 ⟨rfl, by decide, ei_2, (List.mem_of_getElem? (i := 616) (by decide +kernel)), .inl rfl⟩ (by decide +kernel) rfl : e_Sn 24 1 (o_getf (e_f1 2 0) 4)) t_24_4
noncomputable def n_24_0 : e_Y := u_ld f_okA f_l0 n_24_1
theorem t_24_0 : e_Sn 24 0 (e_un n_24_0) := u_ldAT f_l0_eq (s_aload (i := .aload_n 0) (len := 1) hq_24 (by decide +kernel) rfl (.inr ⟨0, rfl, rfl, rfl⟩) : e_Sn 24 0 (o_load e_okR 0 1)) t_24_1
noncomputable def e_tb_24 : e_X := (e_lf 0 (e_un n_24_0))
theorem e_tk_24 : e_Tb 24 e_tb_24 := (e_lfT t_24_0)
theorem hq_25 : (e_ml[25]?).map (·.2.1) = some prog_3_method_8_code := rfl
theorem ho_25 : (e_ml[25]?).map (·.1.cls) = some "Plateroomprinter$Engine" := rfl
theorem hr_25 : (e_ml[25]?).map (·.2.2.2) = some (some .int) := rfl
noncomputable def n_25_26 : e_Y := u_retI
theorem t_25_26 : e_Sn 25 26 (e_un n_25_26) := u_retIT (s_iret hq_25 hr_25 (by decide +kernel) : e_Sn 25 26 (o_ret e_okI))
noncomputable def n_25_25 : e_Y := u_push (.inl 2147483648) n_25_26
theorem t_25_25 : e_Sn 25 25 (e_un n_25_25) := u_pushT (s_iconst (n := (0)) hq_25 (by decide +kernel) rfl ⟨by decide +kernel, by decide +kernel⟩ : e_Sn 25 25 (o_push (.inl 2147483648) 26)) t_25_26
noncomputable def n_25_17 : e_Y := u_jmp y_le (u_old2 (o_cgt 20 25) 20 (u_at 20) n_25_25) (u_at 20) n_25_25
theorem t_25_17 : e_Sn 25 17 (e_un n_25_17) := u_cgtT rfl (s_cle (off := (8)) hq_25 (by decide +kernel) rfl rfl : e_Sn 25 17 (o_cgt 20 25)) u_atT t_25_25
noncomputable def n_25_14 : e_Y := u_push (.inl 2147488648) n_25_17
theorem t_25_14 : e_Sn 25 14 (e_un n_25_14) := u_pushT (s_sipush (n := (5000)) hq_25 (by decide +kernel) rfl ⟨by decide +kernel, by decide +kernel⟩ : e_Sn 25 14 (o_push (.inl 2147488648) 17)) t_25_17
noncomputable def n_25_11 : e_Y := u_getf 2 14 (u_old (o_getf (e_f1 2 14) 14) n_25_14) n_25_14
theorem t_25_11 : e_Sn 25 11 (e_un n_25_11) := u_getfT (s_getf (C := er_2) (T := et_2) (N := 19) (ref := "Plateroomprinter$Engine") (index := 57) (ci := 2) (k := 14) hq_25 ho_25 ⟨rfl, by decide, ei_2, (List.mem_of_getElem? (i := 631) (by decide +kernel)), .inl rfl⟩ (by decide +kernel) rfl : e_Sn 25 11 (o_getf (e_f1 2 14) 14)) t_25_14
noncomputable def n_25_10 : e_Y := u_ld f_okA f_l0 n_25_11
theorem t_25_10 : e_Sn 25 10 (e_un n_25_10) := u_ldAT f_l0_eq (s_aload (i := .aload_n 0) (len := 1) hq_25 (by decide +kernel) rfl (.inr ⟨0, rfl, rfl, rfl⟩) : e_Sn 25 10 (o_load e_okR 0 11)) t_25_11
noncomputable def n_25_7 : e_Y := u_old (o_putf (e_f1 2 14) e_okI 10) n_25_10
theorem t_25_7 : e_Sn 25 7 (e_un n_25_7) := u_oldT (s_putf (ty0 := ey_2) (ok := e_okI) (C := er_2) (T := et_2) (N := 19) (ref := "Plateroomprinter$Engine") (index := 57) (ci := 2) (k := 14) hq_25 ho_25 ⟨rfl, by decide, ei_2, (List.mem_of_getElem? (i := 631) (by decide +kernel)), .inl rfl⟩ eo_2 en_2 e_oksI (.inl rfl) (by decide +kernel) rfl : e_Sn 25 7 (o_putf (e_f1 2 14) e_okI 10)) t_25_10 (e_cg_putf (e_f1 2 14) e_okI)
noncomputable def n_25_6 : e_Y := u_bin a_iadd (u_old (o_iadd 7) n_25_7) n_25_7
theorem t_25_6 : e_Sn 25 6 (e_un n_25_6) := u_iaddT (s_iadd hq_25 (by decide +kernel) rfl : e_Sn 25 6 (o_iadd 7)) t_25_7
noncomputable def n_25_5 : e_Y := u_ld f_okI f_l1 n_25_6
theorem t_25_5 : e_Sn 25 5 (e_un n_25_5) := u_ldIT f_l1_eq (s_iload (i := .iload_n 1) (len := 1) hq_25 (by decide +kernel) rfl (.inr ⟨1, rfl, rfl, rfl⟩) : e_Sn 25 5 (o_load e_okI 1 6)) t_25_6
noncomputable def n_25_2 : e_Y := u_getf 2 14 (u_old (o_getf (e_f1 2 14) 5) n_25_5) n_25_5
theorem t_25_2 : e_Sn 25 2 (e_un n_25_2) := u_getfT (s_getf (C := er_2) (T := et_2) (N := 19) (ref := "Plateroomprinter$Engine") (index := 57) (ci := 2) (k := 14) hq_25 ho_25 ⟨rfl, by decide, ei_2, (List.mem_of_getElem? (i := 631) (by decide +kernel)), .inl rfl⟩ (by decide +kernel) rfl : e_Sn 25 2 (o_getf (e_f1 2 14) 5)) t_25_5
noncomputable def n_25_1 : e_Y := u_old (o_dup 2) n_25_2
theorem t_25_1 : e_Sn 25 1 (e_un n_25_1) := u_oldT (s_dup hq_25 (by decide +kernel) rfl : e_Sn 25 1 (o_dup 2)) t_25_2 e_cg_dup
noncomputable def n_25_0 : e_Y := u_ld f_okA f_l0 n_25_1
theorem t_25_0 : e_Sn 25 0 (e_un n_25_0) := u_ldAT f_l0_eq (s_aload (i := .aload_n 0) (len := 1) hq_25 (by decide +kernel) rfl (.inr ⟨0, rfl, rfl, rfl⟩) : e_Sn 25 0 (o_load e_okR 0 1)) t_25_1
noncomputable def e_tb_25 : e_X := (e_lf 0 (e_un n_25_0))
theorem e_tk_25 : e_Tb 25 e_tb_25 := (e_lfT t_25_0)
end SN
