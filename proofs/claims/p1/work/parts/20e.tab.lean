/-! TABLES, by program -/
section SN
theorem hq_98 : (e_ml[98]?).map (·.2.1) = some prog_11_method_3_code := rfl
theorem ho_98 : (e_ml[98]?).map (·.1.cls) = some "Plateroomprinter$State" := rfl
theorem hr_98 : (e_ml[98]?).map (·.2.2.2) = some none := rfl
noncomputable def n_98_129 : e_Y := u_tab (o_retv)
theorem t_98_129 : e_Sn 98 129 (e_un n_98_129) := u_tabT (s_vret hq_98 hr_98 (by decide +kernel) : e_Sn 98 129 (o_retv))
noncomputable def n_98_126 : e_Y := u_old (o_putf (e_f1 10 10) e_okI 129) n_98_129
theorem t_98_126 : e_Sn 98 126 (e_un n_98_126) := u_oldT (s_putf (ty0 := ey_10) (ok := e_okI) (C := er_10) (T := et_10) (N := 11) (ref := "Plateroomprinter$State") (index := 51) (ci := 10) (k := 10) hq_98 ho_98 ⟨rfl, by decide, ei_10, (List.mem_of_getElem? (i := 346) (by decide +kernel)), .inl rfl⟩ eo_10 en_10 e_oksI (.inl rfl) (by decide +kernel) rfl : e_Sn 98 126 (o_putf (e_f1 10 10) e_okI 129)) t_98_129 (e_cg_putf (e_f1 10 10) e_okI)
noncomputable def n_98_123 : e_Y := u_getf 10 10 (u_old (o_getf (e_f1 10 10) 126) n_98_126) n_98_126
theorem t_98_123 : e_Sn 98 123 (e_un n_98_123) := u_getfT (s_getf (C := er_10) (T := et_10) (N := 11) (ref := "Plateroomprinter$State") (index := 51) (ci := 10) (k := 10) hq_98 ho_98 ⟨rfl, by decide, ei_10, (List.mem_of_getElem? (i := 346) (by decide +kernel)), .inl rfl⟩ (by decide +kernel) rfl : e_Sn 98 123 (o_getf (e_f1 10 10) 126)) t_98_126
noncomputable def n_98_122 : e_Y := u_ld f_okA f_l1 n_98_123
theorem t_98_122 : e_Sn 98 122 (e_un n_98_122) := u_ldAT f_l1_eq (s_aload (i := .aload_n 1) (len := 1) hq_98 (by decide +kernel) rfl (.inr ⟨1, rfl, rfl, rfl⟩) : e_Sn 98 122 (o_load e_okR 1 123)) t_98_123
noncomputable def n_98_121 : e_Y := u_ld f_okA f_l0 n_98_122
theorem t_98_121 : e_Sn 98 121 (e_un n_98_121) := u_ldAT f_l0_eq (s_aload (i := .aload_n 0) (len := 1) hq_98 (by decide +kernel) rfl (.inr ⟨0, rfl, rfl, rfl⟩) : e_Sn 98 121 (o_load e_okR 0 122)) t_98_122
noncomputable def n_98_118 : e_Y := u_old (o_putf (e_f1 10 9) e_okI 121) n_98_121
theorem t_98_118 : e_Sn 98 118 (e_un n_98_118) := u_oldT (s_putf (ty0 := ey_10) (ok := e_okI) (C := er_10) (T := et_10) (N := 11) (ref := "Plateroomprinter$State") (index := 48) (ci := 10) (k := 9) hq_98 ho_98 ⟨rfl, by decide, ei_10, (List.mem_of_getElem? (i := 343) (by decide +kernel)), .inl rfl⟩ eo_10 en_10 e_oksI (.inl rfl) (by decide +kernel) rfl : e_Sn 98 118 (o_putf (e_f1 10 9) e_okI 121)) t_98_121 (e_cg_putf (e_f1 10 9) e_okI)
noncomputable def n_98_115 : e_Y := u_getf 10 9 (u_old (o_getf (e_f1 10 9) 118) n_98_118) n_98_118
theorem t_98_115 : e_Sn 98 115 (e_un n_98_115) := u_getfT (s_getf (C := er_10) (T := et_10) (N := 11) (ref := "Plateroomprinter$State") (index := 48) (ci := 10) (k := 9) hq_98 ho_98 ⟨rfl, by decide, ei_10, (List.mem_of_getElem? (i := 343) (by decide +kernel)), .inl rfl⟩ (by decide +kernel) rfl : e_Sn 98 115 (o_getf (e_f1 10 9) 118)) t_98_118
noncomputable def n_98_114 : e_Y := u_ld f_okA f_l1 n_98_115
theorem t_98_114 : e_Sn 98 114 (e_un n_98_114) := u_ldAT f_l1_eq (s_aload (i := .aload_n 1) (len := 1) hq_98 (by decide +kernel) rfl (.inr ⟨1, rfl, rfl, rfl⟩) : e_Sn 98 114 (o_load e_okR 1 115)) t_98_115
noncomputable def n_98_113 : e_Y := u_ld f_okA f_l0 n_98_114
theorem t_98_113 : e_Sn 98 113 (e_un n_98_113) := u_ldAT f_l0_eq (s_aload (i := .aload_n 0) (len := 1) hq_98 (by decide +kernel) rfl (.inr ⟨0, rfl, rfl, rfl⟩) : e_Sn 98 113 (o_load e_okR 0 114)) t_98_114
noncomputable def n_98_110 : e_Y := u_old (o_putf (e_f1 10 8) e_okI 113) n_98_113
theorem t_98_110 : e_Sn 98 110 (e_un n_98_110) := u_oldT (s_putf (ty0 := ey_10) (ok := e_okI) (C := er_10) (T := et_10) (N := 11) (ref := "Plateroomprinter$State") (index := 45) (ci := 10) (k := 8) hq_98 ho_98 ⟨rfl, by decide, ei_10, (List.mem_of_getElem? (i := 340) (by decide +kernel)), .inl rfl⟩ eo_10 en_10 e_oksI (.inl rfl) (by decide +kernel) rfl : e_Sn 98 110 (o_putf (e_f1 10 8) e_okI 113)) t_98_113 (e_cg_putf (e_f1 10 8) e_okI)
noncomputable def n_98_107 : e_Y := u_getf 10 8 (u_old (o_getf (e_f1 10 8) 110) n_98_110) n_98_110
theorem t_98_107 : e_Sn 98 107 (e_un n_98_107) := u_getfT (s_getf (C := er_10) (T := et_10) (N := 11) (ref := "Plateroomprinter$State") (index := 45) (ci := 10) (k := 8) hq_98 ho_98 ⟨rfl, by decide, ei_10, (List.mem_of_getElem? (i := 340) (by decide +kernel)), .inl rfl⟩ (by decide +kernel) rfl : e_Sn 98 107 (o_getf (e_f1 10 8) 110)) t_98_110
noncomputable def n_98_106 : e_Y := u_ld f_okA f_l1 n_98_107
theorem t_98_106 : e_Sn 98 106 (e_un n_98_106) := u_ldAT f_l1_eq (s_aload (i := .aload_n 1) (len := 1) hq_98 (by decide +kernel) rfl (.inr ⟨1, rfl, rfl, rfl⟩) : e_Sn 98 106 (o_load e_okR 1 107)) t_98_107
noncomputable def n_98_105 : e_Y := u_ld f_okA f_l0 n_98_106
theorem t_98_105 : e_Sn 98 105 (e_un n_98_105) := u_ldAT f_l0_eq (s_aload (i := .aload_n 0) (len := 1) hq_98 (by decide +kernel) rfl (.inr ⟨0, rfl, rfl, rfl⟩) : e_Sn 98 105 (o_load e_okR 0 106)) t_98_106
noncomputable def n_98_102 : e_Y := u_old (o_putf (e_f1 10 7) e_okI 105) n_98_105
theorem t_98_102 : e_Sn 98 102 (e_un n_98_102) := u_oldT (s_putf (ty0 := ey_10) (ok := e_okI) (C := er_10) (T := et_10) (N := 11) (ref := "Plateroomprinter$State") (index := 41) (ci := 10) (k := 7) hq_98 ho_98 ⟨rfl, by decide, ei_10, (List.mem_of_getElem? (i := 337) (by decide +kernel)), .inl rfl⟩ eo_10 en_10 e_oksI (.inl rfl) (by decide +kernel) rfl : e_Sn 98 102 (o_putf (e_f1 10 7) e_okI 105)) t_98_105 (e_cg_putf (e_f1 10 7) e_okI)
noncomputable def n_98_99 : e_Y := u_getf 10 7 (u_old (o_getf (e_f1 10 7) 102) n_98_102) n_98_102
theorem t_98_99 : e_Sn 98 99 (e_un n_98_99) := u_getfT (s_getf (C := er_10) (T := et_10) (N := 11) (ref := "Plateroomprinter$State") (index := 41) (ci := 10) (k := 7) hq_98 ho_98 ⟨rfl, by decide, ei_10, (List.mem_of_getElem? (i := 337) (by decide +kernel)), .inl rfl⟩ (by decide +kernel) rfl : e_Sn 98 99 (o_getf (e_f1 10 7) 102)) t_98_102
noncomputable def n_98_98 : e_Y := u_ld f_okA f_l1 n_98_99
theorem t_98_98 : e_Sn 98 98 (e_un n_98_98) := u_ldAT f_l1_eq (s_aload (i := .aload_n 1) (len := 1) hq_98 (by decide +kernel) rfl (.inr ⟨1, rfl, rfl, rfl⟩) : e_Sn 98 98 (o_load e_okR 1 99)) t_98_99
noncomputable def n_98_97 : e_Y := u_ld f_okA f_l0 n_98_98
theorem t_98_97 : e_Sn 98 97 (e_un n_98_97) := u_ldAT f_l0_eq (s_aload (i := .aload_n 0) (len := 1) hq_98 (by decide +kernel) rfl (.inr ⟨0, rfl, rfl, rfl⟩) : e_Sn 98 97 (o_load e_okR 0 98)) t_98_98
noncomputable def n_98_94 : e_Y := u_old (o_putf (e_f1 10 6) e_okI 97) n_98_97
theorem t_98_94 : e_Sn 98 94 (e_un n_98_94) := u_oldT (s_putf (ty0 := ey_10) (ok := e_okI) (C := er_10) (T := et_10) (N := 11) (ref := "Plateroomprinter$State") (index := 68) (ci := 10) (k := 6) hq_98 ho_98 ⟨rfl, by decide, ei_10, (List.mem_of_getElem? (i := 334) (by decide +kernel)), .inl rfl⟩ eo_10 en_10 e_oksI (.inl rfl) (by decide +kernel) rfl : e_Sn 98 94 (o_putf (e_f1 10 6) e_okI 97)) t_98_97 (e_cg_putf (e_f1 10 6) e_okI)
noncomputable def n_98_91 : e_Y := u_getf 10 6 (u_old (o_getf (e_f1 10 6) 94) n_98_94) n_98_94
theorem t_98_91 : e_Sn 98 91 (e_un n_98_91) := u_getfT (s_getf (C := er_10) (T := et_10) (N := 11) (ref := "Plateroomprinter$State") (index := 68) (ci := 10) (k := 6) hq_98 ho_98 ⟨rfl, by decide, ei_10, (List.mem_of_getElem? (i := 334) (by decide +kernel)), .inl rfl⟩ (by decide +kernel) rfl : e_Sn 98 91 (o_getf (e_f1 10 6) 94)) t_98_94
noncomputable def n_98_90 : e_Y := u_ld f_okA f_l1 n_98_91
theorem t_98_90 : e_Sn 98 90 (e_un n_98_90) := u_ldAT f_l1_eq (s_aload (i := .aload_n 1) (len := 1) hq_98 (by decide +kernel) rfl (.inr ⟨1, rfl, rfl, rfl⟩) : e_Sn 98 90 (o_load e_okR 1 91)) t_98_91
noncomputable def n_98_89 : e_Y := u_ld f_okA f_l0 n_98_90
theorem t_98_89 : e_Sn 98 89 (e_un n_98_89) := u_ldAT f_l0_eq (s_aload (i := .aload_n 0) (len := 1) hq_98 (by decide +kernel) rfl (.inr ⟨0, rfl, rfl, rfl⟩) : e_Sn 98 89 (o_load e_okR 0 90)) t_98_90
noncomputable def n_98_86 : e_Y := u_old (o_putf (e_f1 10 5) e_okI 89) n_98_89
theorem t_98_86 : e_Sn 98 86 (e_un n_98_86) := u_oldT (s_putf (ty0 := ey_10) (ok := e_okI) (C := er_10) (T := et_10) (N := 11) (ref := "Plateroomprinter$State") (index := 65) (ci := 10) (k := 5) hq_98 ho_98 ⟨rfl, by decide, ei_10, (List.mem_of_getElem? (i := 331) (by decide +kernel)), .inl rfl⟩ eo_10 en_10 e_oksI (.inl rfl) (by decide +kernel) rfl : e_Sn 98 86 (o_putf (e_f1 10 5) e_okI 89)) t_98_89 (e_cg_putf (e_f1 10 5) e_okI)
noncomputable def n_98_83 : e_Y := u_getf 10 5 (u_old (o_getf (e_f1 10 5) 86) n_98_86) n_98_86
theorem t_98_83 : e_Sn 98 83 (e_un n_98_83) := u_getfT (s_getf (C := er_10) (T := et_10) (N := 11) (ref := "Plateroomprinter$State") (index := 65) (ci := 10) (k := 5) hq_98 ho_98 ⟨rfl, by decide, ei_10, (List.mem_of_getElem? (i := 331) (by decide +kernel)), .inl rfl⟩ (by decide +kernel) rfl : e_Sn 98 83 (o_getf (e_f1 10 5) 86)) t_98_86
noncomputable def n_98_82 : e_Y := u_ld f_okA f_l1 n_98_83
theorem t_98_82 : e_Sn 98 82 (e_un n_98_82) := u_ldAT f_l1_eq (s_aload (i := .aload_n 1) (len := 1) hq_98 (by decide +kernel) rfl (.inr ⟨1, rfl, rfl, rfl⟩) : e_Sn 98 82 (o_load e_okR 1 83)) t_98_83
noncomputable def n_98_81 : e_Y := u_ld f_okA f_l0 n_98_82
theorem t_98_81 : e_Sn 98 81 (e_un n_98_81) := u_ldAT f_l0_eq (s_aload (i := .aload_n 0) (len := 1) hq_98 (by decide +kernel) rfl (.inr ⟨0, rfl, rfl, rfl⟩) : e_Sn 98 81 (o_load e_okR 0 82)) t_98_82
noncomputable def n_98_78 : e_Y := u_old (o_putf (e_f1 10 4) e_okZ 81) n_98_81
theorem t_98_78 : e_Sn 98 78 (e_un n_98_78) := u_oldT (s_putf (ty0 := ey_10) (ok := e_okZ) (C := er_10) (T := et_10) (N := 11) (ref := "Plateroomprinter$State") (index := 61) (ci := 10) (k := 4) hq_98 ho_98 ⟨rfl, by decide, ei_10, (List.mem_of_getElem? (i := 328) (by decide +kernel)), .inl rfl⟩ eo_10 en_10 e_oksZ (.inl rfl) (by decide +kernel) rfl : e_Sn 98 78 (o_putf (e_f1 10 4) e_okZ 81)) t_98_81 (e_cg_putf (e_f1 10 4) e_okZ)
noncomputable def n_98_75 : e_Y := u_getf 10 4 (u_old (o_getf (e_f1 10 4) 78) n_98_78) n_98_78
theorem t_98_75 : e_Sn 98 75 (e_un n_98_75) := u_getfT (s_getf (C := er_10) (T := et_10) (N := 11) (ref := "Plateroomprinter$State") (index := 61) (ci := 10) (k := 4) hq_98 ho_98 ⟨rfl, by decide, ei_10, (List.mem_of_getElem? (i := 328) (by decide +kernel)), .inl rfl⟩ (by decide +kernel) rfl : e_Sn 98 75 (o_getf (e_f1 10 4) 78)) t_98_78
noncomputable def n_98_74 : e_Y := u_ld f_okA f_l1 n_98_75
theorem t_98_74 : e_Sn 98 74 (e_un n_98_74) := u_ldAT f_l1_eq (s_aload (i := .aload_n 1) (len := 1) hq_98 (by decide +kernel) rfl (.inr ⟨1, rfl, rfl, rfl⟩) : e_Sn 98 74 (o_load e_okR 1 75)) t_98_75
noncomputable def n_98_73 : e_Y := u_ld f_okA f_l0 n_98_74
theorem t_98_73 : e_Sn 98 73 (e_un n_98_73) := u_ldAT f_l0_eq (s_aload (i := .aload_n 0) (len := 1) hq_98 (by decide +kernel) rfl (.inr ⟨0, rfl, rfl, rfl⟩) : e_Sn 98 73 (o_load e_okR 0 74)) t_98_74
noncomputable def n_98_70 : e_Y := (u_at 50)
theorem t_98_70 : e_Sn 98 70 (e_un n_98_70) := u_gotoT (s_goto (off := (-20)) hq_98 (by decide +kernel) rfl : e_Sn 98 70 (o_goto 50)) u_atT
noncomputable def n_98_67 : e_Y := u_inc f_l2 f_s2 1 n_98_70
theorem t_98_67 : e_Sn 98 67 (e_un n_98_67) := u_incT f_l2_eq (fun _ _ _ => f_s2_eq) (s_iinc (zz := (1)) hq_98 (by decide +kernel) rfl (by decide +kernel) ⟨by decide, by decide⟩ : e_Sn 98 67 (o_iinc 2 1 70)) t_98_70
noncomputable def n_98_66 : e_Y := u_old (o_ast 0 e_okI 67) n_98_67
theorem t_98_66 : e_Sn 98 66 (e_un n_98_66) := u_oldT (s_iast hq_98 (by decide +kernel) rfl : e_Sn 98 66 (o_ast 0 e_okI 67)) t_98_67 (e_cg_ast 0 e_okI)
noncomputable def n_98_65 : e_Y := u_ald 0 (u_old (o_ald e_fcs 66) n_98_66) n_98_66
theorem t_98_65 : e_Sn 98 65 (e_un n_98_65) := u_aldT (s_iald hq_98 (by decide +kernel) rfl : e_Sn 98 65 (o_ald e_fcs 66)) t_98_66
noncomputable def n_98_64 : e_Y := u_ld f_okI f_l2 n_98_65
theorem t_98_64 : e_Sn 98 64 (e_un n_98_64) := u_ldIT f_l2_eq (s_iload (i := .iload_n 2) (len := 1) hq_98 (by decide +kernel) rfl (.inr ⟨2, rfl, rfl, rfl⟩) : e_Sn 98 64 (o_load e_okI 2 65)) t_98_65
noncomputable def n_98_61 : e_Y := u_getf 10 3 (u_old (o_getf (e_f1 10 3) 64) n_98_64) n_98_64
theorem t_98_61 : e_Sn 98 61 (e_un n_98_61) := u_getfT (s_getf (C := er_10) (T := et_10) (N := 11) (ref := "Plateroomprinter$State") (index := 29) (ci := 10) (k := 3) hq_98 ho_98 ⟨rfl, by decide, ei_10, (List.mem_of_getElem? (i := 325) (by decide +kernel)), .inl rfl⟩ (by decide +kernel) rfl : e_Sn 98 61 (o_getf (e_f1 10 3) 64)) t_98_64
noncomputable def n_98_60 : e_Y := u_ld f_okA f_l1 n_98_61
theorem t_98_60 : e_Sn 98 60 (e_un n_98_60) := u_ldAT f_l1_eq (s_aload (i := .aload_n 1) (len := 1) hq_98 (by decide +kernel) rfl (.inr ⟨1, rfl, rfl, rfl⟩) : e_Sn 98 60 (o_load e_okR 1 61)) t_98_61
noncomputable def n_98_59 : e_Y := u_ld f_okI f_l2 n_98_60
theorem t_98_59 : e_Sn 98 59 (e_un n_98_59) := u_ldIT f_l2_eq (s_iload (i := .iload_n 2) (len := 1) hq_98 (by decide +kernel) rfl (.inr ⟨2, rfl, rfl, rfl⟩) : e_Sn 98 59 (o_load e_okI 2 60)) t_98_60
noncomputable def n_98_56 : e_Y := u_getf 10 3 (u_old (o_getf (e_f1 10 3) 59) n_98_59) n_98_59
theorem t_98_56 : e_Sn 98 56 (e_un n_98_56) := u_getfT (s_getf (C := er_10) (T := et_10) (N := 11) (ref := "Plateroomprinter$State") (index := 29) (ci := 10) (k := 3) hq_98 ho_98 ⟨rfl, by decide, ei_10, (List.mem_of_getElem? (i := 325) (by decide +kernel)), .inl rfl⟩ (by decide +kernel) rfl : e_Sn 98 56 (o_getf (e_f1 10 3) 59)) t_98_59
noncomputable def n_98_55 : e_Y := u_ld f_okA f_l0 n_98_56
theorem t_98_55 : e_Sn 98 55 (e_un n_98_55) := u_ldAT f_l0_eq (s_aload (i := .aload_n 0) (len := 1) hq_98 (by decide +kernel) rfl (.inr ⟨0, rfl, rfl, rfl⟩) : e_Sn 98 55 (o_load e_okR 0 56)) t_98_56
noncomputable def n_98_52 : e_Y := u_jmp y_ge (u_old2 (o_clt 55 73) 55 n_98_55 n_98_73) n_98_55 n_98_73
theorem t_98_52 : e_Sn 98 52 (e_un n_98_52) := u_cltT rfl (s_cge (off := (21)) hq_98 (by decide +kernel) rfl rfl : e_Sn 98 52 (o_clt 55 73)) t_98_55 t_98_73
noncomputable def n_98_51 : e_Y := u_push (.inl 2147483652) n_98_52
theorem t_98_51 : e_Sn 98 51 (e_un n_98_51) := u_pushT (s_iconst (n := (4)) hq_98 (by decide +kernel) rfl ⟨by decide +kernel, by decide +kernel⟩ : e_Sn 98 51 (o_push (.inl 2147483652) 52)) t_98_52
noncomputable def n_98_50 : e_Y := u_ld f_okI f_l2 n_98_51
theorem t_98_50 : e_Sn 98 50 (e_un n_98_50) := u_ldIT f_l2_eq (s_iload (i := .iload_n 2) (len := 1) hq_98 (by decide +kernel) rfl (.inr ⟨2, rfl, rfl, rfl⟩) : e_Sn 98 50 (o_load e_okI 2 51)) t_98_51
noncomputable def n_98_49 : e_Y := u_st f_okI f_s2 n_98_50
theorem t_98_49 : e_Sn 98 49 (e_un n_98_49) := u_stIT (fun _ _ _ => f_s2_eq) (s_istore (i := .istore_n 2) (len := 1) hq_98 (by decide +kernel) rfl (.inr ⟨2, rfl, rfl, rfl⟩) : e_Sn 98 49 (o_store e_okI 2 50)) t_98_50
noncomputable def n_98_48 : e_Y := u_push (.inl 2147483648) n_98_49
theorem t_98_48 : e_Sn 98 48 (e_un n_98_48) := u_pushT (s_iconst (n := (0)) hq_98 (by decide +kernel) rfl ⟨by decide +kernel, by decide +kernel⟩ : e_Sn 98 48 (o_push (.inl 2147483648) 49)) t_98_49
noncomputable def n_98_45 : e_Y := (u_at 24)
theorem t_98_45 : e_Sn 98 45 (e_un n_98_45) := u_gotoT (s_goto (off := (-21)) hq_98 (by decide +kernel) rfl : e_Sn 98 45 (o_goto 24)) u_atT
noncomputable def n_98_42 : e_Y := u_inc f_l2 f_s2 1 n_98_45
theorem t_98_42 : e_Sn 98 42 (e_un n_98_42) := u_incT f_l2_eq (fun _ _ _ => f_s2_eq) (s_iinc (zz := (1)) hq_98 (by decide +kernel) rfl (by decide +kernel) ⟨by decide, by decide⟩ : e_Sn 98 42 (o_iinc 2 1 45)) t_98_45
noncomputable def n_98_41 : e_Y := u_old (o_ast 0 e_okI 42) n_98_42
theorem t_98_41 : e_Sn 98 41 (e_un n_98_41) := u_oldT (s_iast hq_98 (by decide +kernel) rfl : e_Sn 98 41 (o_ast 0 e_okI 42)) t_98_42 (e_cg_ast 0 e_okI)
noncomputable def n_98_40 : e_Y := u_ald 0 (u_old (o_ald e_fcs 41) n_98_41) n_98_41
theorem t_98_40 : e_Sn 98 40 (e_un n_98_40) := u_aldT (s_iald hq_98 (by decide +kernel) rfl : e_Sn 98 40 (o_ald e_fcs 41)) t_98_41
noncomputable def n_98_39 : e_Y := u_ld f_okI f_l2 n_98_40
theorem t_98_39 : e_Sn 98 39 (e_un n_98_39) := u_ldIT f_l2_eq (s_iload (i := .iload_n 2) (len := 1) hq_98 (by decide +kernel) rfl (.inr ⟨2, rfl, rfl, rfl⟩) : e_Sn 98 39 (o_load e_okI 2 40)) t_98_40
noncomputable def n_98_36 : e_Y := u_getf 10 2 (u_old (o_getf (e_f1 10 2) 39) n_98_39) n_98_39
theorem t_98_36 : e_Sn 98 36 (e_un n_98_36) := u_getfT (s_getf (C := er_10) (T := et_10) (N := 11) (ref := "Plateroomprinter$State") (index := 25) (ci := 10) (k := 2) hq_98 ho_98 ⟨rfl, by decide, ei_10, (List.mem_of_getElem? (i := 322) (by decide +kernel)), .inl rfl⟩ (by decide +kernel) rfl : e_Sn 98 36 (o_getf (e_f1 10 2) 39)) t_98_39
noncomputable def n_98_35 : e_Y := u_ld f_okA f_l1 n_98_36
theorem t_98_35 : e_Sn 98 35 (e_un n_98_35) := u_ldAT f_l1_eq (s_aload (i := .aload_n 1) (len := 1) hq_98 (by decide +kernel) rfl (.inr ⟨1, rfl, rfl, rfl⟩) : e_Sn 98 35 (o_load e_okR 1 36)) t_98_36
noncomputable def n_98_34 : e_Y := u_ld f_okI f_l2 n_98_35
theorem t_98_34 : e_Sn 98 34 (e_un n_98_34) := u_ldIT f_l2_eq (s_iload (i := .iload_n 2) (len := 1) hq_98 (by decide +kernel) rfl (.inr ⟨2, rfl, rfl, rfl⟩) : e_Sn 98 34 (o_load e_okI 2 35)) t_98_35
noncomputable def n_98_31 : e_Y := u_getf 10 2 (u_old (o_getf (e_f1 10 2) 34) n_98_34) n_98_34
theorem t_98_31 : e_Sn 98 31 (e_un n_98_31) := u_getfT (s_getf (C := er_10) (T := et_10) (N := 11) (ref := "Plateroomprinter$State") (index := 25) (ci := 10) (k := 2) hq_98 ho_98 ⟨rfl, by decide, ei_10, (List.mem_of_getElem? (i := 322) (by decide +kernel)), .inl rfl⟩ (by decide +kernel) rfl : e_Sn 98 31 (o_getf (e_f1 10 2) 34)) t_98_34
noncomputable def n_98_30 : e_Y := u_ld f_okA f_l0 n_98_31
theorem t_98_30 : e_Sn 98 30 (e_un n_98_30) := u_ldAT f_l0_eq (s_aload (i := .aload_n 0) (len := 1) hq_98 (by decide +kernel) rfl (.inr ⟨0, rfl, rfl, rfl⟩) : e_Sn 98 30 (o_load e_okR 0 31)) t_98_31
noncomputable def n_98_27 : e_Y := u_jmp y_ge (u_old2 (o_clt 30 48) 30 n_98_30 n_98_48) n_98_30 n_98_48
theorem t_98_27 : e_Sn 98 27 (e_un n_98_27) := u_cltT rfl (s_cge (off := (21)) hq_98 (by decide +kernel) rfl rfl : e_Sn 98 27 (o_clt 30 48)) t_98_30 t_98_48
noncomputable def n_98_25 : e_Y := u_push (.inl 2147483680) n_98_27
theorem t_98_25 : e_Sn 98 25 (e_un n_98_25) := u_pushT (s_bipush (n := (32)) hq_98 (by decide +kernel) rfl ⟨by decide +kernel, by decide +kernel⟩ : e_Sn 98 25 (o_push (.inl 2147483680) 27)) t_98_27
noncomputable def n_98_24 : e_Y := u_ld f_okI f_l2 n_98_25
theorem t_98_24 : e_Sn 98 24 (e_un n_98_24) := u_ldIT f_l2_eq (s_iload (i := .iload_n 2) (len := 1) hq_98 (by decide +kernel) rfl (.inr ⟨2, rfl, rfl, rfl⟩) : e_Sn 98 24 (o_load e_okI 2 25)) t_98_25
noncomputable def n_98_23 : e_Y := u_st f_okI f_s2 n_98_24
theorem t_98_23 : e_Sn 98 23 (e_un n_98_23) := u_stIT (fun _ _ _ => f_s2_eq) (s_istore (i := .istore_n 2) (len := 1) hq_98 (by decide +kernel) rfl (.inr ⟨2, rfl, rfl, rfl⟩) : e_Sn 98 23 (o_store e_okI 2 24)) t_98_24
noncomputable def n_98_22 : e_Y := u_push (.inl 2147483648) n_98_23
theorem t_98_22 : e_Sn 98 22 (e_un n_98_22) := u_pushT (s_iconst (n := (0)) hq_98 (by decide +kernel) rfl ⟨by decide +kernel, by decide +kernel⟩ : e_Sn 98 22 (o_push (.inl 2147483648) 23)) t_98_23
noncomputable def n_98_19 : e_Y := u_callV 7 84 2 21 2 n_84_0 n_98_22
theorem t_98_19 : e_Sn 98 19 (e_un n_98_19) := u_callVT rfl (s_callV (ci := 7) (C := er_7) (T := et_7) (N := 6) (index := 58) hq_98 ho_98 hy_84 hp_84 hc_84 hi_84 hd_84 (List.mem_of_getElem? (i := 756) (by decide +kernel)) hs_84 (List.mem_of_getElem? (i := 758) (by decide +kernel)) rfl (by decide +kernel) rfl : e_Sn 98 19 (o_callV (e_s1 7 84 2) 2 22)) t_84_0 t_98_22
noncomputable def n_98_16 : e_Y := u_getf 10 1 (u_old (o_getf (e_f1 10 1) 19) n_98_19) n_98_19
theorem t_98_16 : e_Sn 98 16 (e_un n_98_16) := u_getfT (s_getf (C := er_10) (T := et_10) (N := 11) (ref := "Plateroomprinter$State") (index := 21) (ci := 10) (k := 1) hq_98 ho_98 ⟨rfl, by decide, ei_10, (List.mem_of_getElem? (i := 319) (by decide +kernel)), .inl rfl⟩ (by decide +kernel) rfl : e_Sn 98 16 (o_getf (e_f1 10 1) 19)) t_98_19
noncomputable def n_98_15 : e_Y := u_ld f_okA f_l1 n_98_16
theorem t_98_15 : e_Sn 98 15 (e_un n_98_15) := u_ldAT f_l1_eq (s_aload (i := .aload_n 1) (len := 1) hq_98 (by decide +kernel) rfl (.inr ⟨1, rfl, rfl, rfl⟩) : e_Sn 98 15 (o_load e_okR 1 16)) t_98_16
noncomputable def n_98_12 : e_Y := u_getf 10 1 (u_old (o_getf (e_f1 10 1) 15) n_98_15) n_98_15
theorem t_98_12 : e_Sn 98 12 (e_un n_98_12) := u_getfT (s_getf (C := er_10) (T := et_10) (N := 11) (ref := "Plateroomprinter$State") (index := 21) (ci := 10) (k := 1) hq_98 ho_98 ⟨rfl, by decide, ei_10, (List.mem_of_getElem? (i := 319) (by decide +kernel)), .inl rfl⟩ (by decide +kernel) rfl : e_Sn 98 12 (o_getf (e_f1 10 1) 15)) t_98_15
noncomputable def n_98_11 : e_Y := u_ld f_okA f_l0 n_98_12
theorem t_98_11 : e_Sn 98 11 (e_un n_98_11) := u_ldAT f_l0_eq (s_aload (i := .aload_n 0) (len := 1) hq_98 (by decide +kernel) rfl (.inr ⟨0, rfl, rfl, rfl⟩) : e_Sn 98 11 (o_load e_okR 0 12)) t_98_12
noncomputable def n_98_8 : e_Y := u_callV 5 79 3 22 2 n_79_0 n_98_11
theorem t_98_8 : e_Sn 98 8 (e_un n_98_8) := u_callVT rfl (s_callV (ci := 5) (C := er_5) (T := et_5) (N := 5) (index := 54) hq_98 ho_98 hy_79 hp_79 hc_79 hi_79 hd_79 (List.mem_of_getElem? (i := 752) (by decide +kernel)) hs_79 (List.mem_of_getElem? (i := 754) (by decide +kernel)) rfl (by decide +kernel) rfl : e_Sn 98 8 (o_callV (e_s1 5 79 3) 2 11)) t_79_0 t_98_11
noncomputable def n_98_5 : e_Y := u_getf 10 0 (u_old (o_getf (e_f1 10 0) 8) n_98_8) n_98_8
theorem t_98_5 : e_Sn 98 5 (e_un n_98_5) := u_getfT (s_getf (C := er_10) (T := et_10) (N := 11) (ref := "Plateroomprinter$State") (index := 12) (ci := 10) (k := 0) hq_98 ho_98 ⟨rfl, by decide, ei_10, (List.mem_of_getElem? (i := 316) (by decide +kernel)), .inl rfl⟩ (by decide +kernel) rfl : e_Sn 98 5 (o_getf (e_f1 10 0) 8)) t_98_8
noncomputable def n_98_4 : e_Y := u_ld f_okA f_l1 n_98_5
theorem t_98_4 : e_Sn 98 4 (e_un n_98_4) := u_ldAT f_l1_eq (s_aload (i := .aload_n 1) (len := 1) hq_98 (by decide +kernel) rfl (.inr ⟨1, rfl, rfl, rfl⟩) : e_Sn 98 4 (o_load e_okR 1 5)) t_98_5
noncomputable def n_98_1 : e_Y := u_getf 10 0 (u_old (o_getf (e_f1 10 0) 4) n_98_4) n_98_4
theorem t_98_1 : e_Sn 98 1 (e_un n_98_1) := u_getfT (s_getf (C := er_10) (T := et_10) (N := 11) (ref := "Plateroomprinter$State") (index := 12) (ci := 10) (k := 0) hq_98 ho_98 ⟨rfl, by decide, ei_10, (List.mem_of_getElem? (i := 316) (by decide +kernel)), .inl rfl⟩ (by decide +kernel) rfl : e_Sn 98 1 (o_getf (e_f1 10 0) 4)) t_98_4
noncomputable def n_98_0 : e_Y := u_ld f_okA f_l0 n_98_1
theorem t_98_0 : e_Sn 98 0 (e_un n_98_0) := u_ldAT f_l0_eq (s_aload (i := .aload_n 0) (len := 1) hq_98 (by decide +kernel) rfl (.inr ⟨0, rfl, rfl, rfl⟩) : e_Sn 98 0 (o_load e_okR 0 1)) t_98_1
noncomputable def e_tb_98 : e_X := (e_br 24 (e_lf 0 (e_un n_98_0)) (e_br 50 (e_lf 24 (e_un n_98_24)) (e_lf 50 (e_un n_98_50))))
theorem e_tk_98 : e_Tb 98 e_tb_98 := (e_brT (e_lfT t_98_0) (e_brT (e_lfT t_98_24) (e_lfT t_98_50)))
theorem hq_103 : (e_ml[103]?).map (·.2.1) = some prog_12_method_3_code := rfl
theorem ho_103 : (e_ml[103]?).map (·.1.cls) = some "Plateroomprinter$World" := rfl
theorem hr_103 : (e_ml[103]?).map (·.2.2.2) = some none := rfl
noncomputable def n_103_208 : e_Y := u_tab (o_retv)
theorem t_103_208 : e_Sn 103 208 (e_un n_103_208) := u_tabT (s_vret hq_103 hr_103 (by decide +kernel) : e_Sn 103 208 (o_retv))
noncomputable def n_103_205 : e_Y := u_old (o_putf (e_f1 11 14) e_okI 208) n_103_208
theorem t_103_205 : e_Sn 103 205 (e_un n_103_205) := u_oldT (s_putf (ty0 := ey_11) (ok := e_okI) (C := er_11) (T := et_11) (N := 15) (ref := "Plateroomprinter$World") (index := 89) (ci := 11) (k := 14) hq_103 ho_103 ⟨rfl, by decide, ei_11, (List.mem_of_getElem? (i := 500) (by decide +kernel)), .inl rfl⟩ eo_11 en_11 e_oksI (.inl rfl) (by decide +kernel) rfl : e_Sn 103 205 (o_putf (e_f1 11 14) e_okI 208)) t_103_208 (e_cg_putf (e_f1 11 14) e_okI)
noncomputable def n_103_202 : e_Y := u_getf 11 14 (u_old (o_getf (e_f1 11 14) 205) n_103_205) n_103_205
theorem t_103_202 : e_Sn 103 202 (e_un n_103_202) := u_getfT (s_getf (C := er_11) (T := et_11) (N := 15) (ref := "Plateroomprinter$World") (index := 89) (ci := 11) (k := 14) hq_103 ho_103 ⟨rfl, by decide, ei_11, (List.mem_of_getElem? (i := 500) (by decide +kernel)), .inl rfl⟩ (by decide +kernel) rfl : e_Sn 103 202 (o_getf (e_f1 11 14) 205)) t_103_205
noncomputable def n_103_201 : e_Y := u_ld f_okA f_l1 n_103_202
theorem t_103_201 : e_Sn 103 201 (e_un n_103_201) := u_ldAT f_l1_eq (s_aload (i := .aload_n 1) (len := 1) hq_103 (by decide +kernel) rfl (.inr ⟨1, rfl, rfl, rfl⟩) : e_Sn 103 201 (o_load e_okR 1 202)) t_103_202
noncomputable def n_103_200 : e_Y := u_ld f_okA f_l0 n_103_201
theorem t_103_200 : e_Sn 103 200 (e_un n_103_200) := u_ldAT f_l0_eq (s_aload (i := .aload_n 0) (len := 1) hq_103 (by decide +kernel) rfl (.inr ⟨0, rfl, rfl, rfl⟩) : e_Sn 103 200 (o_load e_okR 0 201)) t_103_201
noncomputable def n_103_197 : e_Y := u_old (o_putf (e_f1 11 13) e_okI 200) n_103_200
theorem t_103_197 : e_Sn 103 197 (e_un n_103_197) := u_oldT (s_putf (ty0 := ey_11) (ok := e_okI) (C := er_11) (T := et_11) (N := 15) (ref := "Plateroomprinter$World") (index := 86) (ci := 11) (k := 13) hq_103 ho_103 ⟨rfl, by decide, ei_11, (List.mem_of_getElem? (i := 497) (by decide +kernel)), .inl rfl⟩ eo_11 en_11 e_oksI (.inl rfl) (by decide +kernel) rfl : e_Sn 103 197 (o_putf (e_f1 11 13) e_okI 200)) t_103_200 (e_cg_putf (e_f1 11 13) e_okI)
noncomputable def n_103_194 : e_Y := u_getf 11 13 (u_old (o_getf (e_f1 11 13) 197) n_103_197) n_103_197
theorem t_103_194 : e_Sn 103 194 (e_un n_103_194) := u_getfT (s_getf (C := er_11) (T := et_11) (N := 15) (ref := "Plateroomprinter$World") (index := 86) (ci := 11) (k := 13) hq_103 ho_103 ⟨rfl, by decide, ei_11, (List.mem_of_getElem? (i := 497) (by decide +kernel)), .inl rfl⟩ (by decide +kernel) rfl : e_Sn 103 194 (o_getf (e_f1 11 13) 197)) t_103_197
noncomputable def n_103_193 : e_Y := u_ld f_okA f_l1 n_103_194
theorem t_103_193 : e_Sn 103 193 (e_un n_103_193) := u_ldAT f_l1_eq (s_aload (i := .aload_n 1) (len := 1) hq_103 (by decide +kernel) rfl (.inr ⟨1, rfl, rfl, rfl⟩) : e_Sn 103 193 (o_load e_okR 1 194)) t_103_194
noncomputable def n_103_192 : e_Y := u_ld f_okA f_l0 n_103_193
theorem t_103_192 : e_Sn 103 192 (e_un n_103_192) := u_ldAT f_l0_eq (s_aload (i := .aload_n 0) (len := 1) hq_103 (by decide +kernel) rfl (.inr ⟨0, rfl, rfl, rfl⟩) : e_Sn 103 192 (o_load e_okR 0 193)) t_103_193
noncomputable def n_103_189 : e_Y := u_old (o_putf (e_f1 11 12) e_okI 192) n_103_192
theorem t_103_189 : e_Sn 103 189 (e_un n_103_189) := u_oldT (s_putf (ty0 := ey_11) (ok := e_okI) (C := er_11) (T := et_11) (N := 15) (ref := "Plateroomprinter$World") (index := 83) (ci := 11) (k := 12) hq_103 ho_103 ⟨rfl, by decide, ei_11, (List.mem_of_getElem? (i := 494) (by decide +kernel)), .inl rfl⟩ eo_11 en_11 e_oksI (.inl rfl) (by decide +kernel) rfl : e_Sn 103 189 (o_putf (e_f1 11 12) e_okI 192)) t_103_192 (e_cg_putf (e_f1 11 12) e_okI)
noncomputable def n_103_186 : e_Y := u_getf 11 12 (u_old (o_getf (e_f1 11 12) 189) n_103_189) n_103_189
theorem t_103_186 : e_Sn 103 186 (e_un n_103_186) := u_getfT (s_getf (C := er_11) (T := et_11) (N := 15) (ref := "Plateroomprinter$World") (index := 83) (ci := 11) (k := 12) hq_103 ho_103 ⟨rfl, by decide, ei_11, (List.mem_of_getElem? (i := 494) (by decide +kernel)), .inl rfl⟩ (by decide +kernel) rfl : e_Sn 103 186 (o_getf (e_f1 11 12) 189)) t_103_189
noncomputable def n_103_185 : e_Y := u_ld f_okA f_l1 n_103_186
theorem t_103_185 : e_Sn 103 185 (e_un n_103_185) := u_ldAT f_l1_eq (s_aload (i := .aload_n 1) (len := 1) hq_103 (by decide +kernel) rfl (.inr ⟨1, rfl, rfl, rfl⟩) : e_Sn 103 185 (o_load e_okR 1 186)) t_103_186
noncomputable def n_103_184 : e_Y := u_ld f_okA f_l0 n_103_185
theorem t_103_184 : e_Sn 103 184 (e_un n_103_184) := u_ldAT f_l0_eq (s_aload (i := .aload_n 0) (len := 1) hq_103 (by decide +kernel) rfl (.inr ⟨0, rfl, rfl, rfl⟩) : e_Sn 103 184 (o_load e_okR 0 185)) t_103_185
noncomputable def n_103_181 : e_Y := (u_at 160)
theorem t_103_181 : e_Sn 103 181 (e_un n_103_181) := u_gotoT (s_goto (off := (-21)) hq_103 (by decide +kernel) rfl : e_Sn 103 181 (o_goto 160)) u_atT
noncomputable def n_103_178 : e_Y := u_inc f_l2 f_s2 1 n_103_181
theorem t_103_178 : e_Sn 103 178 (e_un n_103_178) := u_incT f_l2_eq (fun _ _ _ => f_s2_eq) (s_iinc (zz := (1)) hq_103 (by decide +kernel) rfl (by decide +kernel) ⟨by decide, by decide⟩ : e_Sn 103 178 (o_iinc 2 1 181)) t_103_181
noncomputable def n_103_177 : e_Y := u_old (o_ast 0 e_okI 178) n_103_178
theorem t_103_177 : e_Sn 103 177 (e_un n_103_177) := u_oldT (s_iast hq_103 (by decide +kernel) rfl : e_Sn 103 177 (o_ast 0 e_okI 178)) t_103_178 (e_cg_ast 0 e_okI)
noncomputable def n_103_176 : e_Y := u_ald 0 (u_old (o_ald e_fcs 177) n_103_177) n_103_177
theorem t_103_176 : e_Sn 103 176 (e_un n_103_176) := u_aldT (s_iald hq_103 (by decide +kernel) rfl : e_Sn 103 176 (o_ald e_fcs 177)) t_103_177
noncomputable def n_103_175 : e_Y := u_ld f_okI f_l2 n_103_176
theorem t_103_175 : e_Sn 103 175 (e_un n_103_175) := u_ldIT f_l2_eq (s_iload (i := .iload_n 2) (len := 1) hq_103 (by decide +kernel) rfl (.inr ⟨2, rfl, rfl, rfl⟩) : e_Sn 103 175 (o_load e_okI 2 176)) t_103_176
noncomputable def n_103_172 : e_Y := u_getf 11 11 (u_old (o_getf (e_f1 11 11) 175) n_103_175) n_103_175
theorem t_103_172 : e_Sn 103 172 (e_un n_103_172) := u_getfT (s_getf (C := er_11) (T := et_11) (N := 15) (ref := "Plateroomprinter$World") (index := 61) (ci := 11) (k := 11) hq_103 ho_103 ⟨rfl, by decide, ei_11, (List.mem_of_getElem? (i := 491) (by decide +kernel)), .inl rfl⟩ (by decide +kernel) rfl : e_Sn 103 172 (o_getf (e_f1 11 11) 175)) t_103_175
noncomputable def n_103_171 : e_Y := u_ld f_okA f_l1 n_103_172
theorem t_103_171 : e_Sn 103 171 (e_un n_103_171) := u_ldAT f_l1_eq (s_aload (i := .aload_n 1) (len := 1) hq_103 (by decide +kernel) rfl (.inr ⟨1, rfl, rfl, rfl⟩) : e_Sn 103 171 (o_load e_okR 1 172)) t_103_172
noncomputable def n_103_170 : e_Y := u_ld f_okI f_l2 n_103_171
theorem t_103_170 : e_Sn 103 170 (e_un n_103_170) := u_ldIT f_l2_eq (s_iload (i := .iload_n 2) (len := 1) hq_103 (by decide +kernel) rfl (.inr ⟨2, rfl, rfl, rfl⟩) : e_Sn 103 170 (o_load e_okI 2 171)) t_103_171
noncomputable def n_103_167 : e_Y := u_getf 11 11 (u_old (o_getf (e_f1 11 11) 170) n_103_170) n_103_170
theorem t_103_167 : e_Sn 103 167 (e_un n_103_167) := u_getfT (s_getf (C := er_11) (T := et_11) (N := 15) (ref := "Plateroomprinter$World") (index := 61) (ci := 11) (k := 11) hq_103 ho_103 ⟨rfl, by decide, ei_11, (List.mem_of_getElem? (i := 491) (by decide +kernel)), .inl rfl⟩ (by decide +kernel) rfl : e_Sn 103 167 (o_getf (e_f1 11 11) 170)) t_103_170
noncomputable def n_103_166 : e_Y := u_ld f_okA f_l0 n_103_167
theorem t_103_166 : e_Sn 103 166 (e_un n_103_166) := u_ldAT f_l0_eq (s_aload (i := .aload_n 0) (len := 1) hq_103 (by decide +kernel) rfl (.inr ⟨0, rfl, rfl, rfl⟩) : e_Sn 103 166 (o_load e_okR 0 167)) t_103_167
noncomputable def n_103_163 : e_Y := u_jmp y_ge (u_old2 (o_clt 166 184) 166 n_103_166 n_103_184) n_103_166 n_103_184
theorem t_103_163 : e_Sn 103 163 (e_un n_103_163) := u_cltT rfl (s_cge (off := (21)) hq_103 (by decide +kernel) rfl rfl : e_Sn 103 163 (o_clt 166 184)) t_103_166 t_103_184
noncomputable def n_103_161 : e_Y := u_push (.inl 2147483701) n_103_163
theorem t_103_161 : e_Sn 103 161 (e_un n_103_161) := u_pushT (s_bipush (n := (53)) hq_103 (by decide +kernel) rfl ⟨by decide +kernel, by decide +kernel⟩ : e_Sn 103 161 (o_push (.inl 2147483701) 163)) t_103_163
noncomputable def n_103_160 : e_Y := u_ld f_okI f_l2 n_103_161
theorem t_103_160 : e_Sn 103 160 (e_un n_103_160) := u_ldIT f_l2_eq (s_iload (i := .iload_n 2) (len := 1) hq_103 (by decide +kernel) rfl (.inr ⟨2, rfl, rfl, rfl⟩) : e_Sn 103 160 (o_load e_okI 2 161)) t_103_161
noncomputable def n_103_159 : e_Y := u_st f_okI f_s2 n_103_160
theorem t_103_159 : e_Sn 103 159 (e_un n_103_159) := u_stIT (fun _ _ _ => f_s2_eq) (s_istore (i := .istore_n 2) (len := 1) hq_103 (by decide +kernel) rfl (.inr ⟨2, rfl, rfl, rfl⟩) : e_Sn 103 159 (o_store e_okI 2 160)) t_103_160
noncomputable def n_103_158 : e_Y := u_push (.inl 2147483648) n_103_159
theorem t_103_158 : e_Sn 103 158 (e_un n_103_158) := u_pushT (s_iconst (n := (0)) hq_103 (by decide +kernel) rfl ⟨by decide +kernel, by decide +kernel⟩ : e_Sn 103 158 (o_push (.inl 2147483648) 159)) t_103_159
noncomputable def n_103_155 : e_Y := u_old (o_putf (e_f1 11 10) e_okI 158) n_103_158
theorem t_103_155 : e_Sn 103 155 (e_un n_103_155) := u_oldT (s_putf (ty0 := ey_11) (ok := e_okI) (C := er_11) (T := et_11) (N := 15) (ref := "Plateroomprinter$World") (index := 80) (ci := 11) (k := 10) hq_103 ho_103 ⟨rfl, by decide, ei_11, (List.mem_of_getElem? (i := 488) (by decide +kernel)), .inl rfl⟩ eo_11 en_11 e_oksI (.inl rfl) (by decide +kernel) rfl : e_Sn 103 155 (o_putf (e_f1 11 10) e_okI 158)) t_103_158 (e_cg_putf (e_f1 11 10) e_okI)
noncomputable def n_103_152 : e_Y := u_getf 11 10 (u_old (o_getf (e_f1 11 10) 155) n_103_155) n_103_155
theorem t_103_152 : e_Sn 103 152 (e_un n_103_152) := u_getfT (s_getf (C := er_11) (T := et_11) (N := 15) (ref := "Plateroomprinter$World") (index := 80) (ci := 11) (k := 10) hq_103 ho_103 ⟨rfl, by decide, ei_11, (List.mem_of_getElem? (i := 488) (by decide +kernel)), .inl rfl⟩ (by decide +kernel) rfl : e_Sn 103 152 (o_getf (e_f1 11 10) 155)) t_103_155
noncomputable def n_103_151 : e_Y := u_ld f_okA f_l1 n_103_152
theorem t_103_151 : e_Sn 103 151 (e_un n_103_151) := u_ldAT f_l1_eq (s_aload (i := .aload_n 1) (len := 1) hq_103 (by decide +kernel) rfl (.inr ⟨1, rfl, rfl, rfl⟩) : e_Sn 103 151 (o_load e_okR 1 152)) t_103_152
noncomputable def n_103_150 : e_Y := u_ld f_okA f_l0 n_103_151
theorem t_103_150 : e_Sn 103 150 (e_un n_103_150) := u_ldAT f_l0_eq (s_aload (i := .aload_n 0) (len := 1) hq_103 (by decide +kernel) rfl (.inr ⟨0, rfl, rfl, rfl⟩) : e_Sn 103 150 (o_load e_okR 0 151)) t_103_151
noncomputable def n_103_147 : e_Y := u_callV 3 69 4 23 2 n_69_0 n_103_150
theorem t_103_147 : e_Sn 103 147 (e_un n_103_147) := u_callVT rfl (s_callV (ci := 3) (C := er_3) (T := et_3) (N := 5) (index := 111) hq_103 ho_103 hy_69 hp_69 hc_69 hi_69 hd_69 (List.mem_of_getElem? (i := 771) (by decide +kernel)) hs_69 (List.mem_of_getElem? (i := 773) (by decide +kernel)) rfl (by decide +kernel) rfl : e_Sn 103 147 (o_callV (e_s1 3 69 4) 2 150)) t_69_0 t_103_150
noncomputable def n_103_144 : e_Y := u_getf 11 9 (u_old (o_getf (e_f1 11 9) 147) n_103_147) n_103_147
theorem t_103_144 : e_Sn 103 144 (e_un n_103_144) := u_getfT (s_getf (C := er_11) (T := et_11) (N := 15) (ref := "Plateroomprinter$World") (index := 57) (ci := 11) (k := 9) hq_103 ho_103 ⟨rfl, by decide, ei_11, (List.mem_of_getElem? (i := 485) (by decide +kernel)), .inl rfl⟩ (by decide +kernel) rfl : e_Sn 103 144 (o_getf (e_f1 11 9) 147)) t_103_147
noncomputable def n_103_143 : e_Y := u_ld f_okA f_l1 n_103_144
theorem t_103_143 : e_Sn 103 143 (e_un n_103_143) := u_ldAT f_l1_eq (s_aload (i := .aload_n 1) (len := 1) hq_103 (by decide +kernel) rfl (.inr ⟨1, rfl, rfl, rfl⟩) : e_Sn 103 143 (o_load e_okR 1 144)) t_103_144
noncomputable def n_103_140 : e_Y := u_getf 11 9 (u_old (o_getf (e_f1 11 9) 143) n_103_143) n_103_143
theorem t_103_140 : e_Sn 103 140 (e_un n_103_140) := u_getfT (s_getf (C := er_11) (T := et_11) (N := 15) (ref := "Plateroomprinter$World") (index := 57) (ci := 11) (k := 9) hq_103 ho_103 ⟨rfl, by decide, ei_11, (List.mem_of_getElem? (i := 485) (by decide +kernel)), .inl rfl⟩ (by decide +kernel) rfl : e_Sn 103 140 (o_getf (e_f1 11 9) 143)) t_103_143
noncomputable def n_103_139 : e_Y := u_ld f_okA f_l0 n_103_140
theorem t_103_139 : e_Sn 103 139 (e_un n_103_139) := u_ldAT f_l0_eq (s_aload (i := .aload_n 0) (len := 1) hq_103 (by decide +kernel) rfl (.inr ⟨0, rfl, rfl, rfl⟩) : e_Sn 103 139 (o_load e_okR 0 140)) t_103_140
noncomputable def n_103_136 : e_Y := u_callV 9 95 3 22 2 n_95_0 n_103_139
theorem t_103_136 : e_Sn 103 136 (e_un n_103_136) := u_callVT rfl (s_callV (ci := 9) (C := er_9) (T := et_9) (N := 1) (index := 108) hq_103 ho_103 hy_95 hp_95 hc_95 hi_95 hd_95 (List.mem_of_getElem? (i := 767) (by decide +kernel)) hs_95 (List.mem_of_getElem? (i := 769) (by decide +kernel)) rfl (by decide +kernel) rfl : e_Sn 103 136 (o_callV (e_s1 9 95 3) 2 139)) t_95_0 t_103_139
noncomputable def n_103_133 : e_Y := u_getf 11 8 (u_old (o_getf (e_f1 11 8) 136) n_103_136) n_103_136
theorem t_103_133 : e_Sn 103 133 (e_un n_103_133) := u_getfT (s_getf (C := er_11) (T := et_11) (N := 15) (ref := "Plateroomprinter$World") (index := 51) (ci := 11) (k := 8) hq_103 ho_103 ⟨rfl, by decide, ei_11, (List.mem_of_getElem? (i := 482) (by decide +kernel)), .inl rfl⟩ (by decide +kernel) rfl : e_Sn 103 133 (o_getf (e_f1 11 8) 136)) t_103_136
noncomputable def n_103_132 : e_Y := u_ld f_okA f_l1 n_103_133
theorem t_103_132 : e_Sn 103 132 (e_un n_103_132) := u_ldAT f_l1_eq (s_aload (i := .aload_n 1) (len := 1) hq_103 (by decide +kernel) rfl (.inr ⟨1, rfl, rfl, rfl⟩) : e_Sn 103 132 (o_load e_okR 1 133)) t_103_133
noncomputable def n_103_129 : e_Y := u_getf 11 8 (u_old (o_getf (e_f1 11 8) 132) n_103_132) n_103_132
theorem t_103_129 : e_Sn 103 129 (e_un n_103_129) := u_getfT (s_getf (C := er_11) (T := et_11) (N := 15) (ref := "Plateroomprinter$World") (index := 51) (ci := 11) (k := 8) hq_103 ho_103 ⟨rfl, by decide, ei_11, (List.mem_of_getElem? (i := 482) (by decide +kernel)), .inl rfl⟩ (by decide +kernel) rfl : e_Sn 103 129 (o_getf (e_f1 11 8) 132)) t_103_132
noncomputable def n_103_128 : e_Y := u_ld f_okA f_l0 n_103_129
theorem t_103_128 : e_Sn 103 128 (e_un n_103_128) := u_ldAT f_l0_eq (s_aload (i := .aload_n 0) (len := 1) hq_103 (by decide +kernel) rfl (.inr ⟨0, rfl, rfl, rfl⟩) : e_Sn 103 128 (o_load e_okR 0 129)) t_103_129
noncomputable def n_103_125 : e_Y := u_callV 9 95 3 22 2 n_95_0 n_103_128
theorem t_103_125 : e_Sn 103 125 (e_un n_103_125) := u_callVT rfl (s_callV (ci := 9) (C := er_9) (T := et_9) (N := 1) (index := 108) hq_103 ho_103 hy_95 hp_95 hc_95 hi_95 hd_95 (List.mem_of_getElem? (i := 767) (by decide +kernel)) hs_95 (List.mem_of_getElem? (i := 769) (by decide +kernel)) rfl (by decide +kernel) rfl : e_Sn 103 125 (o_callV (e_s1 9 95 3) 2 128)) t_95_0 t_103_128
noncomputable def n_103_122 : e_Y := u_getf 11 7 (u_old (o_getf (e_f1 11 7) 125) n_103_125) n_103_125
theorem t_103_122 : e_Sn 103 122 (e_un n_103_122) := u_getfT (s_getf (C := er_11) (T := et_11) (N := 15) (ref := "Plateroomprinter$World") (index := 47) (ci := 11) (k := 7) hq_103 ho_103 ⟨rfl, by decide, ei_11, (List.mem_of_getElem? (i := 479) (by decide +kernel)), .inl rfl⟩ (by decide +kernel) rfl : e_Sn 103 122 (o_getf (e_f1 11 7) 125)) t_103_125
noncomputable def n_103_121 : e_Y := u_ld f_okA f_l1 n_103_122
theorem t_103_121 : e_Sn 103 121 (e_un n_103_121) := u_ldAT f_l1_eq (s_aload (i := .aload_n 1) (len := 1) hq_103 (by decide +kernel) rfl (.inr ⟨1, rfl, rfl, rfl⟩) : e_Sn 103 121 (o_load e_okR 1 122)) t_103_122
noncomputable def n_103_118 : e_Y := u_getf 11 7 (u_old (o_getf (e_f1 11 7) 121) n_103_121) n_103_121
theorem t_103_118 : e_Sn 103 118 (e_un n_103_118) := u_getfT (s_getf (C := er_11) (T := et_11) (N := 15) (ref := "Plateroomprinter$World") (index := 47) (ci := 11) (k := 7) hq_103 ho_103 ⟨rfl, by decide, ei_11, (List.mem_of_getElem? (i := 479) (by decide +kernel)), .inl rfl⟩ (by decide +kernel) rfl : e_Sn 103 118 (o_getf (e_f1 11 7) 121)) t_103_121
noncomputable def n_103_117 : e_Y := u_ld f_okA f_l0 n_103_118
theorem t_103_117 : e_Sn 103 117 (e_un n_103_117) := u_ldAT f_l0_eq (s_aload (i := .aload_n 0) (len := 1) hq_103 (by decide +kernel) rfl (.inr ⟨0, rfl, rfl, rfl⟩) : e_Sn 103 117 (o_load e_okR 0 118)) t_103_118
noncomputable def n_103_114 : e_Y := (u_at 79)
theorem t_103_114 : e_Sn 103 114 (e_un n_103_114) := u_gotoT (s_goto (off := (-35)) hq_103 (by decide +kernel) rfl : e_Sn 103 114 (o_goto 79)) u_atT
noncomputable def n_103_111 : e_Y := u_inc f_l2 f_s2 1 n_103_114
theorem t_103_111 : e_Sn 103 111 (e_un n_103_111) := u_incT f_l2_eq (fun _ _ _ => f_s2_eq) (s_iinc (zz := (1)) hq_103 (by decide +kernel) rfl (by decide +kernel) ⟨by decide, by decide⟩ : e_Sn 103 111 (o_iinc 2 1 114)) t_103_114
noncomputable def n_103_110 : e_Y := u_old (o_ast 0 e_okI 111) n_103_111
theorem t_103_110 : e_Sn 103 110 (e_un n_103_110) := u_oldT (s_iast hq_103 (by decide +kernel) rfl : e_Sn 103 110 (o_ast 0 e_okI 111)) t_103_111 (e_cg_ast 0 e_okI)
noncomputable def n_103_109 : e_Y := u_ald 0 (u_old (o_ald e_fcs 110) n_103_110) n_103_110
theorem t_103_109 : e_Sn 103 109 (e_un n_103_109) := u_aldT (s_iald hq_103 (by decide +kernel) rfl : e_Sn 103 109 (o_ald e_fcs 110)) t_103_110
noncomputable def n_103_108 : e_Y := u_ld f_okI f_l2 n_103_109
theorem t_103_108 : e_Sn 103 108 (e_un n_103_108) := u_ldIT f_l2_eq (s_iload (i := .iload_n 2) (len := 1) hq_103 (by decide +kernel) rfl (.inr ⟨2, rfl, rfl, rfl⟩) : e_Sn 103 108 (o_load e_okI 2 109)) t_103_109
noncomputable def n_103_105 : e_Y := u_getf 11 6 (u_old (o_getf (e_f1 11 6) 108) n_103_108) n_103_108
theorem t_103_105 : e_Sn 103 105 (e_un n_103_105) := u_getfT (s_getf (C := er_11) (T := et_11) (N := 15) (ref := "Plateroomprinter$World") (index := 40) (ci := 11) (k := 6) hq_103 ho_103 ⟨rfl, by decide, ei_11, (List.mem_of_getElem? (i := 476) (by decide +kernel)), .inl rfl⟩ (by decide +kernel) rfl : e_Sn 103 105 (o_getf (e_f1 11 6) 108)) t_103_108
noncomputable def n_103_104 : e_Y := u_ld f_okA f_l1 n_103_105
theorem t_103_104 : e_Sn 103 104 (e_un n_103_104) := u_ldAT f_l1_eq (s_aload (i := .aload_n 1) (len := 1) hq_103 (by decide +kernel) rfl (.inr ⟨1, rfl, rfl, rfl⟩) : e_Sn 103 104 (o_load e_okR 1 105)) t_103_105
noncomputable def n_103_103 : e_Y := u_ld f_okI f_l2 n_103_104
theorem t_103_103 : e_Sn 103 103 (e_un n_103_103) := u_ldIT f_l2_eq (s_iload (i := .iload_n 2) (len := 1) hq_103 (by decide +kernel) rfl (.inr ⟨2, rfl, rfl, rfl⟩) : e_Sn 103 103 (o_load e_okI 2 104)) t_103_104
noncomputable def n_103_100 : e_Y := u_getf 11 6 (u_old (o_getf (e_f1 11 6) 103) n_103_103) n_103_103
theorem t_103_100 : e_Sn 103 100 (e_un n_103_100) := u_getfT (s_getf (C := er_11) (T := et_11) (N := 15) (ref := "Plateroomprinter$World") (index := 40) (ci := 11) (k := 6) hq_103 ho_103 ⟨rfl, by decide, ei_11, (List.mem_of_getElem? (i := 476) (by decide +kernel)), .inl rfl⟩ (by decide +kernel) rfl : e_Sn 103 100 (o_getf (e_f1 11 6) 103)) t_103_103
noncomputable def n_103_99 : e_Y := u_ld f_okA f_l0 n_103_100
theorem t_103_99 : e_Sn 103 99 (e_un n_103_99) := u_ldAT f_l0_eq (s_aload (i := .aload_n 0) (len := 1) hq_103 (by decide +kernel) rfl (.inr ⟨0, rfl, rfl, rfl⟩) : e_Sn 103 99 (o_load e_okR 0 100)) t_103_100
noncomputable def n_103_96 : e_Y := u_callV 7 84 2 21 2 n_84_0 n_103_99
theorem t_103_96 : e_Sn 103 96 (e_un n_103_96) := u_callVT rfl (s_callV (ci := 7) (C := er_7) (T := et_7) (N := 6) (index := 105) hq_103 ho_103 hy_84 hp_84 hc_84 hi_84 hd_84 (List.mem_of_getElem? (i := 766) (by decide +kernel)) hs_84 (List.mem_of_getElem? (i := 758) (by decide +kernel)) rfl (by decide +kernel) rfl : e_Sn 103 96 (o_callV (e_s1 7 84 2) 2 99)) t_84_0 t_103_99
noncomputable def n_103_95 : e_Y := u_ald 4 (u_old (o_aldO 4 96) n_103_96) n_103_96
theorem t_103_95 : e_Sn 103 95 (e_un n_103_95) := u_aldOT (s_aald (tc := 1) rfl hq_103 (by decide +kernel) rfl : e_Sn 103 95 (o_aldO 4 96)) t_103_96
noncomputable def n_103_94 : e_Y := u_ld f_okI f_l2 n_103_95
theorem t_103_94 : e_Sn 103 94 (e_un n_103_94) := u_ldIT f_l2_eq (s_iload (i := .iload_n 2) (len := 1) hq_103 (by decide +kernel) rfl (.inr ⟨2, rfl, rfl, rfl⟩) : e_Sn 103 94 (o_load e_okI 2 95)) t_103_95
noncomputable def n_103_91 : e_Y := u_getf 11 5 (u_old (o_getf (e_f1 11 5) 94) n_103_94) n_103_94
theorem t_103_91 : e_Sn 103 91 (e_un n_103_91) := u_getfT (s_getf (C := er_11) (T := et_11) (N := 15) (ref := "Plateroomprinter$World") (index := 36) (ci := 11) (k := 5) hq_103 ho_103 ⟨rfl, by decide, ei_11, (List.mem_of_getElem? (i := 473) (by decide +kernel)), .inl rfl⟩ (by decide +kernel) rfl : e_Sn 103 91 (o_getf (e_f1 11 5) 94)) t_103_94
noncomputable def n_103_90 : e_Y := u_ld f_okA f_l1 n_103_91
theorem t_103_90 : e_Sn 103 90 (e_un n_103_90) := u_ldAT f_l1_eq (s_aload (i := .aload_n 1) (len := 1) hq_103 (by decide +kernel) rfl (.inr ⟨1, rfl, rfl, rfl⟩) : e_Sn 103 90 (o_load e_okR 1 91)) t_103_91
noncomputable def n_103_89 : e_Y := u_ald 4 (u_old (o_aldO 4 90) n_103_90) n_103_90
theorem t_103_89 : e_Sn 103 89 (e_un n_103_89) := u_aldOT (s_aald (tc := 1) rfl hq_103 (by decide +kernel) rfl : e_Sn 103 89 (o_aldO 4 90)) t_103_90
noncomputable def n_103_88 : e_Y := u_ld f_okI f_l2 n_103_89
theorem t_103_88 : e_Sn 103 88 (e_un n_103_88) := u_ldIT f_l2_eq (s_iload (i := .iload_n 2) (len := 1) hq_103 (by decide +kernel) rfl (.inr ⟨2, rfl, rfl, rfl⟩) : e_Sn 103 88 (o_load e_okI 2 89)) t_103_89
noncomputable def n_103_85 : e_Y := u_getf 11 5 (u_old (o_getf (e_f1 11 5) 88) n_103_88) n_103_88
theorem t_103_85 : e_Sn 103 85 (e_un n_103_85) := u_getfT (s_getf (C := er_11) (T := et_11) (N := 15) (ref := "Plateroomprinter$World") (index := 36) (ci := 11) (k := 5) hq_103 ho_103 ⟨rfl, by decide, ei_11, (List.mem_of_getElem? (i := 473) (by decide +kernel)), .inl rfl⟩ (by decide +kernel) rfl : e_Sn 103 85 (o_getf (e_f1 11 5) 88)) t_103_88
noncomputable def n_103_84 : e_Y := u_ld f_okA f_l0 n_103_85
theorem t_103_84 : e_Sn 103 84 (e_un n_103_84) := u_ldAT f_l0_eq (s_aload (i := .aload_n 0) (len := 1) hq_103 (by decide +kernel) rfl (.inr ⟨0, rfl, rfl, rfl⟩) : e_Sn 103 84 (o_load e_okR 0 85)) t_103_85
noncomputable def n_103_81 : e_Y := u_jmp y_ge (u_old2 (o_clt 84 117) 84 n_103_84 n_103_117) n_103_84 n_103_117
theorem t_103_81 : e_Sn 103 81 (e_un n_103_81) := u_cltT rfl (s_cge (off := (36)) hq_103 (by decide +kernel) rfl rfl : e_Sn 103 81 (o_clt 84 117)) t_103_84 t_103_117
noncomputable def n_103_80 : e_Y := u_push (.inl 2147483653) n_103_81
theorem t_103_80 : e_Sn 103 80 (e_un n_103_80) := u_pushT (s_iconst (n := (5)) hq_103 (by decide +kernel) rfl ⟨by decide +kernel, by decide +kernel⟩ : e_Sn 103 80 (o_push (.inl 2147483653) 81)) t_103_81
noncomputable def n_103_79 : e_Y := u_ld f_okI f_l2 n_103_80
theorem t_103_79 : e_Sn 103 79 (e_un n_103_79) := u_ldIT f_l2_eq (s_iload (i := .iload_n 2) (len := 1) hq_103 (by decide +kernel) rfl (.inr ⟨2, rfl, rfl, rfl⟩) : e_Sn 103 79 (o_load e_okI 2 80)) t_103_80
noncomputable def n_103_78 : e_Y := u_st f_okI f_s2 n_103_79
theorem t_103_78 : e_Sn 103 78 (e_un n_103_78) := u_stIT (fun _ _ _ => f_s2_eq) (s_istore (i := .istore_n 2) (len := 1) hq_103 (by decide +kernel) rfl (.inr ⟨2, rfl, rfl, rfl⟩) : e_Sn 103 78 (o_store e_okI 2 79)) t_103_79
noncomputable def n_103_77 : e_Y := u_push (.inl 2147483648) n_103_78
theorem t_103_77 : e_Sn 103 77 (e_un n_103_77) := u_pushT (s_iconst (n := (0)) hq_103 (by decide +kernel) rfl ⟨by decide +kernel, by decide +kernel⟩ : e_Sn 103 77 (o_push (.inl 2147483648) 78)) t_103_78
noncomputable def n_103_53 : e_Y := u_jmp y_ge (u_old2 (o_clt 56 77) 56 (u_at 56) n_103_77) (u_at 56) n_103_77
theorem t_103_53 : e_Sn 103 53 (e_un n_103_53) := u_cltT rfl (s_cge (off := (24)) hq_103 (by decide +kernel) rfl rfl : e_Sn 103 53 (o_clt 56 77)) u_atT t_103_77
noncomputable def n_103_50 : e_Y := u_getf 11 4 (u_old (o_getf (e_f1 11 4) 53) n_103_53) n_103_53
theorem t_103_50 : e_Sn 103 50 (e_un n_103_50) := u_getfT (s_getf (C := er_11) (T := et_11) (N := 15) (ref := "Plateroomprinter$World") (index := 71) (ci := 11) (k := 4) hq_103 ho_103 ⟨rfl, by decide, ei_11, (List.mem_of_getElem? (i := 470) (by decide +kernel)), .inl rfl⟩ (by decide +kernel) rfl : e_Sn 103 50 (o_getf (e_f1 11 4) 53)) t_103_53
noncomputable def n_103_49 : e_Y := u_ld f_okA f_l0 n_103_50
theorem t_103_49 : e_Sn 103 49 (e_un n_103_49) := u_ldAT f_l0_eq (s_aload (i := .aload_n 0) (len := 1) hq_103 (by decide +kernel) rfl (.inr ⟨0, rfl, rfl, rfl⟩) : e_Sn 103 49 (o_load e_okR 0 50)) t_103_50
noncomputable def n_103_48 : e_Y := u_ld f_okI f_l2 n_103_49
theorem t_103_48 : e_Sn 103 48 (e_un n_103_48) := u_ldIT f_l2_eq (s_iload (i := .iload_n 2) (len := 1) hq_103 (by decide +kernel) rfl (.inr ⟨2, rfl, rfl, rfl⟩) : e_Sn 103 48 (o_load e_okI 2 49)) t_103_49
noncomputable def n_103_47 : e_Y := u_st f_okI f_s2 n_103_48
theorem t_103_47 : e_Sn 103 47 (e_un n_103_47) := u_stIT (fun _ _ _ => f_s2_eq) (s_istore (i := .istore_n 2) (len := 1) hq_103 (by decide +kernel) rfl (.inr ⟨2, rfl, rfl, rfl⟩) : e_Sn 103 47 (o_store e_okI 2 48)) t_103_48
noncomputable def n_103_46 : e_Y := u_push (.inl 2147483648) n_103_47
theorem t_103_46 : e_Sn 103 46 (e_un n_103_46) := u_pushT (s_iconst (n := (0)) hq_103 (by decide +kernel) rfl ⟨by decide +kernel, by decide +kernel⟩ : e_Sn 103 46 (o_push (.inl 2147483648) 47)) t_103_47
noncomputable def n_103_43 : e_Y := u_old (o_putf (e_f1 11 4) e_okI 46) n_103_46
theorem t_103_43 : e_Sn 103 43 (e_un n_103_43) := u_oldT (s_putf (ty0 := ey_11) (ok := e_okI) (C := er_11) (T := et_11) (N := 15) (ref := "Plateroomprinter$World") (index := 71) (ci := 11) (k := 4) hq_103 ho_103 ⟨rfl, by decide, ei_11, (List.mem_of_getElem? (i := 470) (by decide +kernel)), .inl rfl⟩ eo_11 en_11 e_oksI (.inl rfl) (by decide +kernel) rfl : e_Sn 103 43 (o_putf (e_f1 11 4) e_okI 46)) t_103_46 (e_cg_putf (e_f1 11 4) e_okI)
noncomputable def n_103_40 : e_Y := u_tab (o_mmin 43)
theorem t_103_40 : e_Sn 103 40 (e_un n_103_40) := u_tabT (s_mmin (index := 99) hq_103 ho_103 (List.mem_of_getElem? (i := 765) (by decide +kernel)) (List.mem_of_getElem? (i := 425) (by decide +kernel)) (List.mem_of_getElem? (i := 142) (by decide +kernel)) (List.mem_of_getElem? (i := 426) (by decide +kernel)) (by decide +kernel) rfl : e_Sn 103 40 (o_mmin 43))
noncomputable def n_103_38 : e_Y := u_push (.inl 2147483656) n_103_40
theorem t_103_38 : e_Sn 103 38 (e_un n_103_38) := u_pushT (s_bipush (n := (8)) hq_103 (by decide +kernel) rfl ⟨by decide +kernel, by decide +kernel⟩ : e_Sn 103 38 (o_push (.inl 2147483656) 40)) t_103_40
noncomputable def n_103_35 : e_Y := u_getf 11 4 (u_old (o_getf (e_f1 11 4) 38) n_103_38) n_103_38
theorem t_103_35 : e_Sn 103 35 (e_un n_103_35) := u_getfT (s_getf (C := er_11) (T := et_11) (N := 15) (ref := "Plateroomprinter$World") (index := 71) (ci := 11) (k := 4) hq_103 ho_103 ⟨rfl, by decide, ei_11, (List.mem_of_getElem? (i := 470) (by decide +kernel)), .inl rfl⟩ (by decide +kernel) rfl : e_Sn 103 35 (o_getf (e_f1 11 4) 38)) t_103_38
noncomputable def n_103_34 : e_Y := u_ld f_okA f_l1 n_103_35
theorem t_103_34 : e_Sn 103 34 (e_un n_103_34) := u_ldAT f_l1_eq (s_aload (i := .aload_n 1) (len := 1) hq_103 (by decide +kernel) rfl (.inr ⟨1, rfl, rfl, rfl⟩) : e_Sn 103 34 (o_load e_okR 1 35)) t_103_35
noncomputable def n_103_33 : e_Y := u_ld f_okA f_l0 n_103_34
theorem t_103_33 : e_Sn 103 33 (e_un n_103_33) := u_ldAT f_l0_eq (s_aload (i := .aload_n 0) (len := 1) hq_103 (by decide +kernel) rfl (.inr ⟨0, rfl, rfl, rfl⟩) : e_Sn 103 33 (o_load e_okR 0 34)) t_103_34
noncomputable def n_103_30 : e_Y := u_callV 10 98 3 22 2 n_98_0 n_103_33
theorem t_103_30 : e_Sn 103 30 (e_un n_103_30) := u_callVT rfl (s_callV (ci := 10) (C := er_10) (T := et_10) (N := 11) (index := 96) hq_103 ho_103 hy_98 hp_98 hc_98 hi_98 hd_98 (List.mem_of_getElem? (i := 748) (by decide +kernel)) hs_98 (List.mem_of_getElem? (i := 750) (by decide +kernel)) rfl (by decide +kernel) rfl : e_Sn 103 30 (o_callV (e_s1 10 98 3) 2 33)) t_98_0 t_103_33
noncomputable def n_103_27 : e_Y := u_getf 11 2 (u_old (o_getf (e_f1 11 2) 30) n_103_30) n_103_30
theorem t_103_27 : e_Sn 103 27 (e_un n_103_27) := u_getfT (s_getf (C := er_11) (T := et_11) (N := 15) (ref := "Plateroomprinter$World") (index := 26) (ci := 11) (k := 2) hq_103 ho_103 ⟨rfl, by decide, ei_11, (List.mem_of_getElem? (i := 465) (by decide +kernel)), .inl rfl⟩ (by decide +kernel) rfl : e_Sn 103 27 (o_getf (e_f1 11 2) 30)) t_103_30
noncomputable def n_103_26 : e_Y := u_ld f_okA f_l1 n_103_27
theorem t_103_26 : e_Sn 103 26 (e_un n_103_26) := u_ldAT f_l1_eq (s_aload (i := .aload_n 1) (len := 1) hq_103 (by decide +kernel) rfl (.inr ⟨1, rfl, rfl, rfl⟩) : e_Sn 103 26 (o_load e_okR 1 27)) t_103_27
noncomputable def n_103_23 : e_Y := u_getf 11 2 (u_old (o_getf (e_f1 11 2) 26) n_103_26) n_103_26
theorem t_103_23 : e_Sn 103 23 (e_un n_103_23) := u_getfT (s_getf (C := er_11) (T := et_11) (N := 15) (ref := "Plateroomprinter$World") (index := 26) (ci := 11) (k := 2) hq_103 ho_103 ⟨rfl, by decide, ei_11, (List.mem_of_getElem? (i := 465) (by decide +kernel)), .inl rfl⟩ (by decide +kernel) rfl : e_Sn 103 23 (o_getf (e_f1 11 2) 26)) t_103_26
noncomputable def n_103_22 : e_Y := u_ld f_okA f_l0 n_103_23
theorem t_103_22 : e_Sn 103 22 (e_un n_103_22) := u_ldAT f_l0_eq (s_aload (i := .aload_n 0) (len := 1) hq_103 (by decide +kernel) rfl (.inr ⟨0, rfl, rfl, rfl⟩) : e_Sn 103 22 (o_load e_okR 0 23)) t_103_23
noncomputable def n_103_19 : e_Y := u_callV 4 72 4 23 2 n_72_0 n_103_22
theorem t_103_19 : e_Sn 103 19 (e_un n_103_19) := u_callVT rfl (s_callV (ci := 4) (C := er_4) (T := et_4) (N := 5) (index := 92) hq_103 ho_103 hy_72 hp_72 hc_72 hi_72 hd_72 (List.mem_of_getElem? (i := 744) (by decide +kernel)) hs_72 (List.mem_of_getElem? (i := 746) (by decide +kernel)) rfl (by decide +kernel) rfl : e_Sn 103 19 (o_callV (e_s1 4 72 4) 2 22)) t_72_0 t_103_22
noncomputable def n_103_16 : e_Y := u_getf 11 1 (u_old (o_getf (e_f1 11 1) 19) n_103_19) n_103_19
theorem t_103_16 : e_Sn 103 16 (e_un n_103_16) := u_getfT (s_getf (C := er_11) (T := et_11) (N := 15) (ref := "Plateroomprinter$World") (index := 20) (ci := 11) (k := 1) hq_103 ho_103 ⟨rfl, by decide, ei_11, (List.mem_of_getElem? (i := 462) (by decide +kernel)), .inl rfl⟩ (by decide +kernel) rfl : e_Sn 103 16 (o_getf (e_f1 11 1) 19)) t_103_19
noncomputable def n_103_15 : e_Y := u_ld f_okA f_l1 n_103_16
theorem t_103_15 : e_Sn 103 15 (e_un n_103_15) := u_ldAT f_l1_eq (s_aload (i := .aload_n 1) (len := 1) hq_103 (by decide +kernel) rfl (.inr ⟨1, rfl, rfl, rfl⟩) : e_Sn 103 15 (o_load e_okR 1 16)) t_103_16
noncomputable def n_103_12 : e_Y := u_getf 11 1 (u_old (o_getf (e_f1 11 1) 15) n_103_15) n_103_15
theorem t_103_12 : e_Sn 103 12 (e_un n_103_12) := u_getfT (s_getf (C := er_11) (T := et_11) (N := 15) (ref := "Plateroomprinter$World") (index := 20) (ci := 11) (k := 1) hq_103 ho_103 ⟨rfl, by decide, ei_11, (List.mem_of_getElem? (i := 462) (by decide +kernel)), .inl rfl⟩ (by decide +kernel) rfl : e_Sn 103 12 (o_getf (e_f1 11 1) 15)) t_103_15
noncomputable def n_103_11 : e_Y := u_ld f_okA f_l0 n_103_12
theorem t_103_11 : e_Sn 103 11 (e_un n_103_11) := u_ldAT f_l0_eq (s_aload (i := .aload_n 0) (len := 1) hq_103 (by decide +kernel) rfl (.inr ⟨0, rfl, rfl, rfl⟩) : e_Sn 103 11 (o_load e_okR 0 12)) t_103_12
noncomputable def n_103_8 : e_Y := u_callV 4 72 4 23 2 n_72_0 n_103_11
theorem t_103_8 : e_Sn 103 8 (e_un n_103_8) := u_callVT rfl (s_callV (ci := 4) (C := er_4) (T := et_4) (N := 5) (index := 92) hq_103 ho_103 hy_72 hp_72 hc_72 hi_72 hd_72 (List.mem_of_getElem? (i := 744) (by decide +kernel)) hs_72 (List.mem_of_getElem? (i := 746) (by decide +kernel)) rfl (by decide +kernel) rfl : e_Sn 103 8 (o_callV (e_s1 4 72 4) 2 11)) t_72_0 t_103_11
noncomputable def n_103_5 : e_Y := u_getf 11 0 (u_old (o_getf (e_f1 11 0) 8) n_103_8) n_103_8
theorem t_103_5 : e_Sn 103 5 (e_un n_103_5) := u_getfT (s_getf (C := er_11) (T := et_11) (N := 15) (ref := "Plateroomprinter$World") (index := 14) (ci := 11) (k := 0) hq_103 ho_103 ⟨rfl, by decide, ei_11, (List.mem_of_getElem? (i := 459) (by decide +kernel)), .inl rfl⟩ (by decide +kernel) rfl : e_Sn 103 5 (o_getf (e_f1 11 0) 8)) t_103_8
noncomputable def n_103_4 : e_Y := u_ld f_okA f_l1 n_103_5
theorem t_103_4 : e_Sn 103 4 (e_un n_103_4) := u_ldAT f_l1_eq (s_aload (i := .aload_n 1) (len := 1) hq_103 (by decide +kernel) rfl (.inr ⟨1, rfl, rfl, rfl⟩) : e_Sn 103 4 (o_load e_okR 1 5)) t_103_5
noncomputable def n_103_1 : e_Y := u_getf 11 0 (u_old (o_getf (e_f1 11 0) 4) n_103_4) n_103_4
theorem t_103_1 : e_Sn 103 1 (e_un n_103_1) := u_getfT (s_getf (C := er_11) (T := et_11) (N := 15) (ref := "Plateroomprinter$World") (index := 14) (ci := 11) (k := 0) hq_103 ho_103 ⟨rfl, by decide, ei_11, (List.mem_of_getElem? (i := 459) (by decide +kernel)), .inl rfl⟩ (by decide +kernel) rfl : e_Sn 103 1 (o_getf (e_f1 11 0) 4)) t_103_4
noncomputable def n_103_0 : e_Y := u_ld f_okA f_l0 n_103_1
theorem t_103_0 : e_Sn 103 0 (e_un n_103_0) := u_ldAT f_l0_eq (s_aload (i := .aload_n 0) (len := 1) hq_103 (by decide +kernel) rfl (.inr ⟨0, rfl, rfl, rfl⟩) : e_Sn 103 0 (o_load e_okR 0 1)) t_103_1
noncomputable def e_tb_103 : e_X := (e_br 79 (e_br 43 (e_lf 0 (e_un n_103_0)) (e_lf 43 (e_un n_103_43))) (e_br 160 (e_lf 79 (e_un n_103_79)) (e_lf 160 (e_un n_103_160))))
theorem e_tk_103 : e_Tb 103 e_tb_103 := (e_brT (e_brT (e_lfT t_103_0) (e_lfT t_103_43)) (e_brT (e_lfT t_103_79) (e_lfT t_103_160)))
theorem hq_47 : (e_ml[47]?).map (·.2.1) = some prog_1_method_6_code := rfl
theorem ho_47 : (e_ml[47]?).map (·.1.cls) = some "Plateroomprinter" := rfl
theorem hr_47 : (e_ml[47]?).map (·.2.2.2) = some (some .int) := rfl
noncomputable def n_47_190 : e_Y := u_retI
theorem t_47_190 : e_Sn 47 190 (e_un n_47_190) := u_retIT (s_iret hq_47 hr_47 (by decide +kernel) : e_Sn 47 190 (o_ret e_okI))
noncomputable def n_47_187 : e_Y := u_getf 0 14 (u_old (o_getf (e_f1 0 14) 190) n_47_190) n_47_190
theorem t_47_187 : e_Sn 47 187 (e_un n_47_187) := u_getfT (s_getf (C := er_0) (T := et_0) (N := 17) (ref := "Plateroomprinter") (index := 81) (ci := 0) (k := 14) hq_47 ho_47 ⟨rfl, by decide, ei_0, (List.mem_of_getElem? (i := 694) (by decide +kernel)), .inl rfl⟩ (by decide +kernel) rfl : e_Sn 47 187 (o_getf (e_f1 0 14) 190)) t_47_190
noncomputable def n_47_186 : e_Y := u_ld f_okA f_l0 n_47_187
theorem t_47_186 : e_Sn 47 186 (e_un n_47_186) := u_ldAT f_l0_eq (s_aload (i := .aload_n 0) (len := 1) hq_47 (by decide +kernel) rfl (.inr ⟨0, rfl, rfl, rfl⟩) : e_Sn 47 186 (o_load e_okR 0 187)) t_47_187
noncomputable def n_47_183 : e_Y := u_callV 0 50 4 23 4 n_50_0 n_47_186
theorem t_47_183 : e_Sn 47 183 (e_un n_47_183) := u_callVT rfl (s_callV (ci := 0) (C := er_0) (T := et_0) (N := 17) (index := 159) hq_47 ho_47 hy_50 hp_50 hc_50 hi_50 hd_50 (List.mem_of_getElem? (i := 1225) (by decide +kernel)) hs_50 (List.mem_of_getElem? (i := 52) (by decide +kernel)) rfl (by decide +kernel) rfl : e_Sn 47 183 (o_callV (e_s1 0 50 4) 4 186)) t_50_0 t_47_186
noncomputable def n_47_182 : e_Y := u_push (.inl 2147483647) n_47_183
theorem t_47_182 : e_Sn 47 182 (e_un n_47_182) := u_pushT (s_iconst (n := (-1)) hq_47 (by decide +kernel) rfl ⟨by decide +kernel, by decide +kernel⟩ : e_Sn 47 182 (o_push (.inl 2147483647) 183)) t_47_183
noncomputable def n_47_181 : e_Y := u_push (.inl 2147483647) n_47_182
theorem t_47_181 : e_Sn 47 181 (e_un n_47_181) := u_pushT (s_iconst (n := (-1)) hq_47 (by decide +kernel) rfl ⟨by decide +kernel, by decide +kernel⟩ : e_Sn 47 181 (o_push (.inl 2147483647) 182)) t_47_182
noncomputable def n_47_180 : e_Y := u_push (.inl 2147483648) n_47_181
theorem t_47_180 : e_Sn 47 180 (e_un n_47_180) := u_pushT (s_iconst (n := (0)) hq_47 (by decide +kernel) rfl ⟨by decide +kernel, by decide +kernel⟩ : e_Sn 47 180 (o_push (.inl 2147483648) 181)) t_47_181
noncomputable def n_47_179 : e_Y := u_ld f_okA f_l0 n_47_180
theorem t_47_179 : e_Sn 47 179 (e_un n_47_179) := u_ldAT f_l0_eq (s_aload (i := .aload_n 0) (len := 1) hq_47 (by decide +kernel) rfl (.inr ⟨0, rfl, rfl, rfl⟩) : e_Sn 47 179 (o_load e_okR 0 180)) t_47_180
noncomputable def n_47_176 : e_Y := u_callV 1 61 1 20 1 n_61_0 n_47_179
theorem t_47_176 : e_Sn 47 176 (e_un n_47_176) := u_callVT rfl (s_callV (ci := 1) (C := er_1) (T := et_1) (N := 4) (index := 166) hq_47 ho_47 hy_61 hp_61 hc_61 hi_61 hd_61 (List.mem_of_getElem? (i := 1233) (by decide +kernel)) hs_61 (List.mem_of_getElem? (i := 1235) (by decide +kernel)) rfl (by decide +kernel) rfl : e_Sn 47 176 (o_callV (e_s1 1 61 1) 1 179)) t_61_0 t_47_179
noncomputable def n_47_173 : e_Y := u_getf 0 0 (u_old (o_getf (e_f1 0 0) 176) n_47_176) n_47_176
theorem t_47_173 : e_Sn 47 173 (e_un n_47_173) := u_getfT (s_getf (C := er_0) (T := et_0) (N := 17) (ref := "Plateroomprinter") (index := 10) (ci := 0) (k := 0) hq_47 ho_47 ⟨rfl, by decide, ei_0, (List.mem_of_getElem? (i := 680) (by decide +kernel)), .inl rfl⟩ (by decide +kernel) rfl : e_Sn 47 173 (o_getf (e_f1 0 0) 176)) t_47_176
noncomputable def n_47_172 : e_Y := u_ld f_okA f_l0 n_47_173
theorem t_47_172 : e_Sn 47 172 (e_un n_47_172) := u_ldAT f_l0_eq (s_aload (i := .aload_n 0) (len := 1) hq_47 (by decide +kernel) rfl (.inr ⟨0, rfl, rfl, rfl⟩) : e_Sn 47 172 (o_load e_okR 0 173)) t_47_173
noncomputable def n_47_169 : e_Y := u_callV 2 67 1 20 1 n_67_0 n_47_172
theorem t_47_169 : e_Sn 47 169 (e_un n_47_169) := u_callVT rfl (s_callV (ci := 2) (C := er_2) (T := et_2) (N := 19) (index := 163) hq_47 ho_47 hy_67 hp_67 hc_67 hi_67 hd_67 (List.mem_of_getElem? (i := 1229) (by decide +kernel)) hs_67 (List.mem_of_getElem? (i := 1231) (by decide +kernel)) rfl (by decide +kernel) rfl : e_Sn 47 169 (o_callV (e_s1 2 67 1) 1 172)) t_67_0 t_47_172
noncomputable def n_47_166 : e_Y := u_getf 0 5 (u_old (o_getf (e_f1 0 5) 169) n_47_169) n_47_169
theorem t_47_166 : e_Sn 47 166 (e_un n_47_166) := u_getfT (s_getf (C := er_0) (T := et_0) (N := 17) (ref := "Plateroomprinter") (index := 47) (ci := 0) (k := 5) hq_47 ho_47 ⟨rfl, by decide, ei_0, (List.mem_of_getElem? (i := 685) (by decide +kernel)), .inl rfl⟩ (by decide +kernel) rfl : e_Sn 47 166 (o_getf (e_f1 0 5) 169)) t_47_169
noncomputable def n_47_165 : e_Y := u_ld f_okA f_l0 n_47_166
theorem t_47_165 : e_Sn 47 165 (e_un n_47_165) := u_ldAT f_l0_eq (s_aload (i := .aload_n 0) (len := 1) hq_47 (by decide +kernel) rfl (.inr ⟨0, rfl, rfl, rfl⟩) : e_Sn 47 165 (o_load e_okR 0 166)) t_47_166
noncomputable def n_47_129 : e_Y := u_if y_le0 (u_old2 (o_ifgt 132 165) 132 (u_at 132) n_47_165) (u_at 132) n_47_165
theorem t_47_129 : e_Sn 47 129 (e_un n_47_129) := u_ifgtT rfl (s_ifle (off := (36)) hq_47 (by decide +kernel) rfl rfl : e_Sn 47 129 (o_ifgt 132 165)) u_atT t_47_165
noncomputable def n_47_128 : e_Y := u_ld f_okI f_l1 n_47_129
theorem t_47_128 : e_Sn 47 128 (e_un n_47_128) := u_ldIT f_l1_eq (s_iload (i := .iload_n 1) (len := 1) hq_47 (by decide +kernel) rfl (.inr ⟨1, rfl, rfl, rfl⟩) : e_Sn 47 128 (o_load e_okI 1 129)) t_47_129
noncomputable def n_47_43 : e_Y := u_if y_ne0 (u_old2 (o_ifeq 46 128) 46 (u_at 46) n_47_128) (u_at 46) n_47_128
theorem t_47_43 : e_Sn 47 43 (e_un n_47_43) := u_ifeqT rfl (s_ifne (off := (85)) hq_47 (by decide +kernel) rfl rfl : e_Sn 47 43 (o_ifeq 46 128)) u_atT t_47_128
noncomputable def n_47_42 : e_Y := u_ld f_okI f_l1 n_47_43
theorem t_47_42 : e_Sn 47 42 (e_un n_47_42) := u_ldIT f_l1_eq (s_iload (i := .iload_n 1) (len := 1) hq_47 (by decide +kernel) rfl (.inr ⟨1, rfl, rfl, rfl⟩) : e_Sn 47 42 (o_load e_okI 1 43)) t_47_43
noncomputable def n_47_39 : e_Y := u_jmp y_ge (u_old2 (o_clt 42 128) 42 n_47_42 n_47_128) n_47_42 n_47_128
theorem t_47_39 : e_Sn 47 39 (e_un n_47_39) := u_cltT rfl (s_cge (off := (89)) hq_47 (by decide +kernel) rfl rfl : e_Sn 47 39 (o_clt 42 128)) t_47_42 t_47_128
noncomputable def n_47_37 : e_Y := u_push (e_I 2148483648) n_47_39
theorem t_47_37 : e_Sn 47 37 (e_un n_47_37) := u_pushT (s_ldc (index := 136) (v := (1000000)) hq_47 ho_47 (List.mem_of_getElem? (i := 811) (by decide +kernel)) (by decide +kernel) rfl ⟨by decide +kernel, by decide +kernel⟩ : e_Sn 47 37 (o_push (e_I 2148483648) 39)) t_47_39
noncomputable def n_47_36 : e_Y := u_ld f_okI f_l2 n_47_37
theorem t_47_36 : e_Sn 47 36 (e_un n_47_36) := u_ldIT f_l2_eq (s_iload (i := .iload_n 2) (len := 1) hq_47 (by decide +kernel) rfl (.inr ⟨2, rfl, rfl, rfl⟩) : e_Sn 47 36 (o_load e_okI 2 37)) t_47_37
noncomputable def n_47_35 : e_Y := u_st f_okI f_s2 n_47_36
theorem t_47_35 : e_Sn 47 35 (e_un n_47_35) := u_stIT (fun _ _ _ => f_s2_eq) (s_istore (i := .istore_n 2) (len := 1) hq_47 (by decide +kernel) rfl (.inr ⟨2, rfl, rfl, rfl⟩) : e_Sn 47 35 (o_store e_okI 2 36)) t_47_36
noncomputable def n_47_34 : e_Y := u_push (.inl 2147483648) n_47_35
theorem t_47_34 : e_Sn 47 34 (e_un n_47_34) := u_pushT (s_iconst (n := (0)) hq_47 (by decide +kernel) rfl ⟨by decide +kernel, by decide +kernel⟩ : e_Sn 47 34 (o_push (.inl 2147483648) 35)) t_47_35
noncomputable def n_47_33 : e_Y := u_st f_okI f_s1 n_47_34
theorem t_47_33 : e_Sn 47 33 (e_un n_47_33) := u_stIT (fun _ _ _ => f_s1_eq) (s_istore (i := .istore_n 1) (len := 1) hq_47 (by decide +kernel) rfl (.inr ⟨1, rfl, rfl, rfl⟩) : e_Sn 47 33 (o_store e_okI 1 34)) t_47_34
noncomputable def n_47_30 : e_Y := u_callV 2 66 4 23 1 n_66_0 n_47_33
theorem t_47_30 : e_Sn 47 30 (e_un n_47_30) := u_callVT rfl (s_callV (ci := 2) (C := er_2) (T := et_2) (N := 19) (index := 133) hq_47 ho_47 hy_66 hp_66 hc_66 hi_66 hd_66 (List.mem_of_getElem? (i := 788) (by decide +kernel)) hs_66 (List.mem_of_getElem? (i := 790) (by decide +kernel)) rfl (by decide +kernel) rfl : e_Sn 47 30 (o_callV (e_s1 2 66 4) 1 33)) t_66_0 t_47_33
noncomputable def n_47_27 : e_Y := u_getf 0 5 (u_old (o_getf (e_f1 0 5) 30) n_47_30) n_47_30
theorem t_47_27 : e_Sn 47 27 (e_un n_47_27) := u_getfT (s_getf (C := er_0) (T := et_0) (N := 17) (ref := "Plateroomprinter") (index := 47) (ci := 0) (k := 5) hq_47 ho_47 ⟨rfl, by decide, ei_0, (List.mem_of_getElem? (i := 685) (by decide +kernel)), .inl rfl⟩ (by decide +kernel) rfl : e_Sn 47 27 (o_getf (e_f1 0 5) 30)) t_47_30
noncomputable def n_47_26 : e_Y := u_ld f_okA f_l0 n_47_27
theorem t_47_26 : e_Sn 47 26 (e_un n_47_26) := u_ldAT f_l0_eq (s_aload (i := .aload_n 0) (len := 1) hq_47 (by decide +kernel) rfl (.inr ⟨0, rfl, rfl, rfl⟩) : e_Sn 47 26 (o_load e_okR 0 27)) t_47_27
noncomputable def n_47_23 : e_Y := u_callV 2 63 1 20 1 n_63_0 n_47_26
theorem t_47_23 : e_Sn 47 23 (e_un n_47_23) := u_callVT rfl (s_callV (ci := 2) (C := er_2) (T := et_2) (N := 19) (index := 130) hq_47 ho_47 hy_63 hp_63 hc_63 hi_63 hd_63 (List.mem_of_getElem? (i := 780) (by decide +kernel)) hs_63 (List.mem_of_getElem? (i := 782) (by decide +kernel)) rfl (by decide +kernel) rfl : e_Sn 47 23 (o_callV (e_s1 2 63 1) 1 26)) t_63_0 t_47_26
noncomputable def n_47_20 : e_Y := u_getf 0 5 (u_old (o_getf (e_f1 0 5) 23) n_47_23) n_47_23
theorem t_47_20 : e_Sn 47 20 (e_un n_47_20) := u_getfT (s_getf (C := er_0) (T := et_0) (N := 17) (ref := "Plateroomprinter") (index := 47) (ci := 0) (k := 5) hq_47 ho_47 ⟨rfl, by decide, ei_0, (List.mem_of_getElem? (i := 685) (by decide +kernel)), .inl rfl⟩ (by decide +kernel) rfl : e_Sn 47 20 (o_getf (e_f1 0 5) 23)) t_47_23
noncomputable def n_47_19 : e_Y := u_ld f_okA f_l0 n_47_20
theorem t_47_19 : e_Sn 47 19 (e_un n_47_19) := u_ldAT f_l0_eq (s_aload (i := .aload_n 0) (len := 1) hq_47 (by decide +kernel) rfl (.inr ⟨0, rfl, rfl, rfl⟩) : e_Sn 47 19 (o_load e_okR 0 20)) t_47_20
noncomputable def n_47_18 : e_Y := u_pop n_47_19
theorem t_47_18 : e_Sn 47 18 (e_un n_47_18) := u_popT (s_pop hq_47 (by decide +kernel) rfl : e_Sn 47 18 (o_pop 19)) t_47_19
noncomputable def n_47_15 : e_Y := u_callV 6 81 2 21 1 n_81_0 n_47_18
theorem t_47_15 : e_Sn 47 15 (e_un n_47_15) := u_callVT rfl (s_callV (ci := 6) (C := er_6) (T := et_6) (N := 17) (index := 126) hq_47 ho_47 hy_81 hp_81 hc_81 hi_81 hd_81 (List.mem_of_getElem? (i := 776) (by decide +kernel)) hs_81 (List.mem_of_getElem? (i := 778) (by decide +kernel)) rfl (by decide +kernel) rfl : e_Sn 47 15 (o_callV (e_s1 6 81 2) 1 18)) t_81_0 t_47_18
noncomputable def n_47_12 : e_Y := u_getf 0 4 (u_old (o_getf (e_f1 0 4) 15) n_47_15) n_47_15
theorem t_47_12 : e_Sn 47 12 (e_un n_47_12) := u_getfT (s_getf (C := er_0) (T := et_0) (N := 17) (ref := "Plateroomprinter") (index := 38) (ci := 0) (k := 4) hq_47 ho_47 ⟨rfl, by decide, ei_0, (List.mem_of_getElem? (i := 684) (by decide +kernel)), .inl rfl⟩ (by decide +kernel) rfl : e_Sn 47 12 (o_getf (e_f1 0 4) 15)) t_47_15
noncomputable def n_47_11 : e_Y := u_ld f_okA f_l0 n_47_12
theorem t_47_11 : e_Sn 47 11 (e_un n_47_11) := u_ldAT f_l0_eq (s_aload (i := .aload_n 0) (len := 1) hq_47 (by decide +kernel) rfl (.inr ⟨0, rfl, rfl, rfl⟩) : e_Sn 47 11 (o_load e_okR 0 12)) t_47_12
noncomputable def n_47_8 : e_Y := u_callV 11 103 3 22 2 n_103_0 n_47_11
theorem t_47_8 : e_Sn 47 8 (e_un n_47_8) := u_callVT rfl (s_callV (ci := 11) (C := er_11) (T := et_11) (N := 15) (index := 122) hq_47 ho_47 hy_103 hp_103 hc_103 hi_103 hd_103 (List.mem_of_getElem? (i := 740) (by decide +kernel)) hs_103 (List.mem_of_getElem? (i := 742) (by decide +kernel)) rfl (by decide +kernel) rfl : e_Sn 47 8 (o_callV (e_s1 11 103 3) 2 11)) t_103_0 t_47_11
noncomputable def n_47_5 : e_Y := u_getf 0 1 (u_old (o_getf (e_f1 0 1) 8) n_47_8) n_47_8
theorem t_47_5 : e_Sn 47 5 (e_un n_47_5) := u_getfT (s_getf (C := er_0) (T := et_0) (N := 17) (ref := "Plateroomprinter") (index := 19) (ci := 0) (k := 1) hq_47 ho_47 ⟨rfl, by decide, ei_0, (List.mem_of_getElem? (i := 681) (by decide +kernel)), .inl rfl⟩ (by decide +kernel) rfl : e_Sn 47 5 (o_getf (e_f1 0 1) 8)) t_47_8
noncomputable def n_47_4 : e_Y := u_ld f_okA f_l0 n_47_5
theorem t_47_4 : e_Sn 47 4 (e_un n_47_4) := u_ldAT f_l0_eq (s_aload (i := .aload_n 0) (len := 1) hq_47 (by decide +kernel) rfl (.inr ⟨0, rfl, rfl, rfl⟩) : e_Sn 47 4 (o_load e_okR 0 5)) t_47_5
noncomputable def n_47_1 : e_Y := u_getf 0 2 (u_old (o_getf (e_f1 0 2) 4) n_47_4) n_47_4
theorem t_47_1 : e_Sn 47 1 (e_un n_47_1) := u_getfT (s_getf (C := er_0) (T := et_0) (N := 17) (ref := "Plateroomprinter") (index := 23) (ci := 0) (k := 2) hq_47 ho_47 ⟨rfl, by decide, ei_0, (List.mem_of_getElem? (i := 682) (by decide +kernel)), .inl rfl⟩ (by decide +kernel) rfl : e_Sn 47 1 (o_getf (e_f1 0 2) 4)) t_47_4
noncomputable def n_47_0 : e_Y := u_ld f_okA f_l0 n_47_1
theorem t_47_0 : e_Sn 47 0 (e_un n_47_0) := u_ldAT f_l0_eq (s_aload (i := .aload_n 0) (len := 1) hq_47 (by decide +kernel) rfl (.inr ⟨0, rfl, rfl, rfl⟩) : e_Sn 47 0 (o_load e_okR 0 1)) t_47_1
noncomputable def e_tb_47 : e_X := (e_lf 0 (e_un n_47_0))
theorem e_tk_47 : e_Tb 47 e_tb_47 := (e_lfT t_47_0)
theorem hq_48 : (e_ml[48]?).map (·.2.1) = some prog_1_method_46_code := rfl
theorem ho_48 : (e_ml[48]?).map (·.1.cls) = some "Plateroomprinter" := rfl
theorem hr_48 : (e_ml[48]?).map (·.2.2.2) = some (some .int) := rfl
noncomputable def n_48_60 : e_Y := u_retI
theorem t_48_60 : e_Sn 48 60 (e_un n_48_60) := u_retIT (s_iret hq_48 hr_48 (by decide +kernel) : e_Sn 48 60 (o_ret e_okI))
noncomputable def n_48_59 : e_Y := u_ald 0 (u_old (o_ald e_fcs 60) n_48_60) n_48_60
theorem t_48_59 : e_Sn 48 59 (e_un n_48_59) := u_aldT (s_iald hq_48 (by decide +kernel) rfl : e_Sn 48 59 (o_ald e_fcs 60)) t_48_60
noncomputable def n_48_58 : e_Y := u_ld f_okI f_l2 n_48_59
theorem t_48_58 : e_Sn 48 58 (e_un n_48_58) := u_ldIT f_l2_eq (s_iload (i := .iload_n 2) (len := 1) hq_48 (by decide +kernel) rfl (.inr ⟨2, rfl, rfl, rfl⟩) : e_Sn 48 58 (o_load e_okI 2 59)) t_48_59
noncomputable def n_48_55 : e_Y := u_getf 0 12 (u_old (o_getf (e_f1 0 12) 58) n_48_58) n_48_58
theorem t_48_55 : e_Sn 48 55 (e_un n_48_55) := u_getfT (s_getf (C := er_0) (T := et_0) (N := 17) (ref := "Plateroomprinter") (index := 74) (ci := 0) (k := 12) hq_48 ho_48 ⟨rfl, by decide, ei_0, (List.mem_of_getElem? (i := 692) (by decide +kernel)), .inl rfl⟩ (by decide +kernel) rfl : e_Sn 48 55 (o_getf (e_f1 0 12) 58)) t_48_58
noncomputable def n_48_54 : e_Y := u_ld f_okA f_l0 n_48_55
theorem t_48_54 : e_Sn 48 54 (e_un n_48_54) := u_ldAT f_l0_eq (s_aload (i := .aload_n 0) (len := 1) hq_48 (by decide +kernel) rfl (.inr ⟨0, rfl, rfl, rfl⟩) : e_Sn 48 54 (o_load e_okR 0 55)) t_48_55
noncomputable def n_48_44 : e_Y := u_tab (o_throw 2)
theorem t_48_44 : e_Sn 48 44 (e_un n_48_44) := u_tabT (s_throw (ik := 175) (is := 177) (ic := 179) (X := "java/lang/IndexOutOfBoundsException") (text := "no such place") hq_48 ho_48 hy_48 hc_48 rfl (by decide +kernel) e_wok2 (by simp [e_sr]) (by decide +kernel) (by decide +kernel) (.inl ⟨(by decide +kernel), (by decide +kernel), (by decide +kernel)⟩) : e_Sn 48 44 (o_throw 2))
noncomputable def n_48_41 : e_Y := u_jmp y_ge (u_old2 (o_clt 54 44) 54 n_48_54 n_48_44) n_48_54 n_48_44
theorem t_48_41 : e_Sn 48 41 (e_un n_48_41) := u_cltT rfl (s_clt (off := (13)) hq_48 (by decide +kernel) rfl rfl : e_Sn 48 41 (o_clt 54 44)) t_48_54 t_48_44
noncomputable def n_48_40 : e_Y := u_old (o_alen e_fcs 41) n_48_41
theorem t_48_40 : e_Sn 48 40 (e_un n_48_40) := u_oldT (s_alen hq_48 (by decide +kernel) rfl : e_Sn 48 40 (o_alen e_fcs 41)) t_48_41 (e_cg_alen e_fcs)
noncomputable def n_48_37 : e_Y := u_getf 0 12 (u_old (o_getf (e_f1 0 12) 40) n_48_40) n_48_40
theorem t_48_37 : e_Sn 48 37 (e_un n_48_37) := u_getfT (s_getf (C := er_0) (T := et_0) (N := 17) (ref := "Plateroomprinter") (index := 74) (ci := 0) (k := 12) hq_48 ho_48 ⟨rfl, by decide, ei_0, (List.mem_of_getElem? (i := 692) (by decide +kernel)), .inl rfl⟩ (by decide +kernel) rfl : e_Sn 48 37 (o_getf (e_f1 0 12) 40)) t_48_40
noncomputable def n_48_36 : e_Y := u_ld f_okA f_l0 n_48_37
theorem t_48_36 : e_Sn 48 36 (e_un n_48_36) := u_ldAT f_l0_eq (s_aload (i := .aload_n 0) (len := 1) hq_48 (by decide +kernel) rfl (.inr ⟨0, rfl, rfl, rfl⟩) : e_Sn 48 36 (o_load e_okR 0 37)) t_48_37
noncomputable def n_48_35 : e_Y := u_ld f_okI f_l2 n_48_36
theorem t_48_35 : e_Sn 48 35 (e_un n_48_35) := u_ldIT f_l2_eq (s_iload (i := .iload_n 2) (len := 1) hq_48 (by decide +kernel) rfl (.inr ⟨2, rfl, rfl, rfl⟩) : e_Sn 48 35 (o_load e_okI 2 36)) t_48_36
noncomputable def n_48_32 : e_Y := u_jmp y_ge (u_old2 (o_clt 35 44) 35 n_48_35 n_48_44) n_48_35 n_48_44
theorem t_48_32 : e_Sn 48 32 (e_un n_48_32) := u_cltT rfl (s_cge (off := (12)) hq_48 (by decide +kernel) rfl rfl : e_Sn 48 32 (o_clt 35 44)) t_48_35 t_48_44
noncomputable def n_48_31 : e_Y := u_ld f_okI f_l3 n_48_32
theorem t_48_31 : e_Sn 48 31 (e_un n_48_31) := u_ldIT f_l3_eq (s_iload (i := .iload_n 3) (len := 1) hq_48 (by decide +kernel) rfl (.inr ⟨3, rfl, rfl, rfl⟩) : e_Sn 48 31 (o_load e_okI 3 32)) t_48_32
noncomputable def n_48_30 : e_Y := u_ld f_okI f_l2 n_48_31
theorem t_48_30 : e_Sn 48 30 (e_un n_48_30) := u_ldIT f_l2_eq (s_iload (i := .iload_n 2) (len := 1) hq_48 (by decide +kernel) rfl (.inr ⟨2, rfl, rfl, rfl⟩) : e_Sn 48 30 (o_load e_okI 2 31)) t_48_31
noncomputable def n_48_27 : e_Y := u_if y_ge0 (u_old2 (o_iflt 44 30) 44 n_48_44 n_48_30) n_48_44 n_48_30
theorem t_48_27 : e_Sn 48 27 (e_un n_48_27) := u_ifltT rfl (s_iflt (off := (17)) hq_48 (by decide +kernel) rfl rfl : e_Sn 48 27 (o_iflt 44 30)) t_48_44 t_48_30
noncomputable def n_48_26 : e_Y := u_ld f_okI f_l2 n_48_27
theorem t_48_26 : e_Sn 48 26 (e_un n_48_26) := u_ldIT f_l2_eq (s_iload (i := .iload_n 2) (len := 1) hq_48 (by decide +kernel) rfl (.inr ⟨2, rfl, rfl, rfl⟩) : e_Sn 48 26 (o_load e_okI 2 27)) t_48_27
noncomputable def n_48_25 : e_Y := u_st f_okI f_s3 n_48_26
theorem t_48_25 : e_Sn 48 25 (e_un n_48_25) := u_stIT (fun _ _ _ => f_s3_eq) (s_istore (i := .istore_n 3) (len := 1) hq_48 (by decide +kernel) rfl (.inr ⟨3, rfl, rfl, rfl⟩) : e_Sn 48 25 (o_store e_okI 3 26)) t_48_26
noncomputable def n_48_22 : e_Y := u_callV 0 41 8 27 2 n_41_0 n_48_25
theorem t_48_22 : e_Sn 48 22 (e_un n_48_22) := u_callVT rfl (s_callV (ci := 0) (C := er_0) (T := et_0) (N := 17) (index := 422) hq_48 ho_48 hy_41 hp_41 hc_41 hi_41 hd_41 (List.mem_of_getElem? (i := 1428) (by decide +kernel)) hs_41 (List.mem_of_getElem? (i := 62) (by decide +kernel)) rfl (by decide +kernel) rfl : e_Sn 48 22 (o_callV (e_s1 0 41 8) 2 25)) t_41_0 t_48_25
noncomputable def n_48_21 : e_Y := u_ld f_okI f_l1 n_48_22
theorem t_48_21 : e_Sn 48 21 (e_un n_48_21) := u_ldIT f_l1_eq (s_iload (i := .iload_n 1) (len := 1) hq_48 (by decide +kernel) rfl (.inr ⟨1, rfl, rfl, rfl⟩) : e_Sn 48 21 (o_load e_okI 1 22)) t_48_22
noncomputable def n_48_20 : e_Y := u_ld f_okA f_l0 n_48_21
theorem t_48_20 : e_Sn 48 20 (e_un n_48_20) := u_ldAT f_l0_eq (s_aload (i := .aload_n 0) (len := 1) hq_48 (by decide +kernel) rfl (.inr ⟨0, rfl, rfl, rfl⟩) : e_Sn 48 20 (o_load e_okR 0 21)) t_48_21
noncomputable def n_48_9 : e_Y := u_tab (o_throw 2)
theorem t_48_9 : e_Sn 48 9 (e_un n_48_9) := u_tabT (s_throw (ik := 175) (is := 415) (ic := 179) (X := "java/lang/IndexOutOfBoundsException") (text := "no such plate") hq_48 ho_48 hy_48 hc_48 rfl (by decide +kernel) e_wok2 (by simp [e_sr]) (by decide +kernel) (by decide +kernel) (.inr ⟨(by decide +kernel), (by decide +kernel), (by decide +kernel)⟩) : e_Sn 48 9 (o_throw 2))
noncomputable def n_48_6 : e_Y := u_jmp y_ge (u_old2 (o_clt 20 9) 20 n_48_20 n_48_9) n_48_20 n_48_9
theorem t_48_6 : e_Sn 48 6 (e_un n_48_6) := u_cltT rfl (s_clt (off := (14)) hq_48 (by decide +kernel) rfl rfl : e_Sn 48 6 (o_clt 20 9)) t_48_20 t_48_9
noncomputable def n_48_5 : e_Y := u_push (.inl 2147483652) n_48_6
theorem t_48_5 : e_Sn 48 5 (e_un n_48_5) := u_pushT (s_iconst (n := (4)) hq_48 (by decide +kernel) rfl ⟨by decide +kernel, by decide +kernel⟩ : e_Sn 48 5 (o_push (.inl 2147483652) 6)) t_48_6
noncomputable def n_48_4 : e_Y := u_ld f_okI f_l1 n_48_5
theorem t_48_4 : e_Sn 48 4 (e_un n_48_4) := u_ldIT f_l1_eq (s_iload (i := .iload_n 1) (len := 1) hq_48 (by decide +kernel) rfl (.inr ⟨1, rfl, rfl, rfl⟩) : e_Sn 48 4 (o_load e_okI 1 5)) t_48_5
noncomputable def n_48_1 : e_Y := u_if y_ge0 (u_old2 (o_iflt 9 4) 9 n_48_9 n_48_4) n_48_9 n_48_4
theorem t_48_1 : e_Sn 48 1 (e_un n_48_1) := u_ifltT rfl (s_iflt (off := (8)) hq_48 (by decide +kernel) rfl rfl : e_Sn 48 1 (o_iflt 9 4)) t_48_9 t_48_4
noncomputable def n_48_0 : e_Y := u_ld f_okI f_l1 n_48_1
theorem t_48_0 : e_Sn 48 0 (e_un n_48_0) := u_ldIT f_l1_eq (s_iload (i := .iload_n 1) (len := 1) hq_48 (by decide +kernel) rfl (.inr ⟨1, rfl, rfl, rfl⟩) : e_Sn 48 0 (o_load e_okI 1 1)) t_48_1
noncomputable def e_tb_48 : e_X := (e_lf 0 (e_un n_48_0))
theorem e_tk_48 : e_Tb 48 e_tb_48 := (e_lfT t_48_0)
theorem hq_60 : (e_ml[60]?).map (·.2.1) = some prog_2_method_2_code := rfl
theorem ho_60 : (e_ml[60]?).map (·.1.cls) = some "Plateroomprinter$Code" := rfl
theorem hr_60 : (e_ml[60]?).map (·.2.2.2) = some none := rfl
noncomputable def n_60_45 : e_Y := u_tab (o_retv)
theorem t_60_45 : e_Sn 60 45 (e_un n_60_45) := u_tabT (s_vret hq_60 hr_60 (by decide +kernel) : e_Sn 60 45 (o_retv))
noncomputable def n_60_42 : e_Y := u_old (o_putf (e_f1 1 3) e_okI 45) n_60_45
theorem t_60_42 : e_Sn 60 42 (e_un n_60_42) := u_oldT (s_putf (ty0 := ey_1) (ok := e_okI) (C := er_1) (T := et_1) (N := 4) (ref := "Plateroomprinter$Code") (index := 22) (ci := 1) (k := 3) hq_60 ho_60 ⟨rfl, by decide, ei_1, (List.mem_of_getElem? (i := 203) (by decide +kernel)), .inl rfl⟩ eo_1 en_1 e_oksI (.inl rfl) (by decide +kernel) rfl : e_Sn 60 42 (o_putf (e_f1 1 3) e_okI 45)) t_60_45 (e_cg_putf (e_f1 1 3) e_okI)
noncomputable def n_60_41 : e_Y := u_bin a_iadd (u_old (o_iadd 42) n_60_42) n_60_42
theorem t_60_41 : e_Sn 60 41 (e_un n_60_41) := u_iaddT (s_iadd hq_60 (by decide +kernel) rfl : e_Sn 60 41 (o_iadd 42)) t_60_42
noncomputable def n_60_40 : e_Y := u_push (.inl 2147483649) n_60_41
theorem t_60_40 : e_Sn 60 40 (e_un n_60_40) := u_pushT (s_iconst (n := (1)) hq_60 (by decide +kernel) rfl ⟨by decide +kernel, by decide +kernel⟩ : e_Sn 60 40 (o_push (.inl 2147483649) 41)) t_60_41
noncomputable def n_60_37 : e_Y := u_getf 1 3 (u_old (o_getf (e_f1 1 3) 40) n_60_40) n_60_40
theorem t_60_37 : e_Sn 60 37 (e_un n_60_37) := u_getfT (s_getf (C := er_1) (T := et_1) (N := 4) (ref := "Plateroomprinter$Code") (index := 22) (ci := 1) (k := 3) hq_60 ho_60 ⟨rfl, by decide, ei_1, (List.mem_of_getElem? (i := 203) (by decide +kernel)), .inl rfl⟩ (by decide +kernel) rfl : e_Sn 60 37 (o_getf (e_f1 1 3) 40)) t_60_40
noncomputable def n_60_36 : e_Y := u_old (o_dup 37) n_60_37
theorem t_60_36 : e_Sn 60 36 (e_un n_60_36) := u_oldT (s_dup hq_60 (by decide +kernel) rfl : e_Sn 60 36 (o_dup 37)) t_60_37 e_cg_dup
noncomputable def n_60_35 : e_Y := u_ld f_okA f_l0 n_60_36
theorem t_60_35 : e_Sn 60 35 (e_un n_60_35) := u_ldAT f_l0_eq (s_aload (i := .aload_n 0) (len := 1) hq_60 (by decide +kernel) rfl (.inr ⟨0, rfl, rfl, rfl⟩) : e_Sn 60 35 (o_load e_okR 0 36)) t_60_36
noncomputable def n_60_34 : e_Y := u_old (o_ast 0 e_okI 35) n_60_35
theorem t_60_34 : e_Sn 60 34 (e_un n_60_34) := u_oldT (s_iast hq_60 (by decide +kernel) rfl : e_Sn 60 34 (o_ast 0 e_okI 35)) t_60_35 (e_cg_ast 0 e_okI)
noncomputable def n_60_33 : e_Y := u_ld f_okI f_l2 n_60_34
theorem t_60_33 : e_Sn 60 33 (e_un n_60_33) := u_ldIT f_l2_eq (s_iload (i := .iload_n 2) (len := 1) hq_60 (by decide +kernel) rfl (.inr ⟨2, rfl, rfl, rfl⟩) : e_Sn 60 33 (o_load e_okI 2 34)) t_60_34
noncomputable def n_60_32 : e_Y := u_ld f_okI f_l3 n_60_33
theorem t_60_32 : e_Sn 60 32 (e_un n_60_32) := u_ldIT f_l3_eq (s_iload (i := .iload_n 3) (len := 1) hq_60 (by decide +kernel) rfl (.inr ⟨3, rfl, rfl, rfl⟩) : e_Sn 60 32 (o_load e_okI 3 33)) t_60_33
noncomputable def n_60_29 : e_Y := u_getf 1 1 (u_old (o_getf (e_f1 1 1) 32) n_60_32) n_60_32
theorem t_60_29 : e_Sn 60 29 (e_un n_60_29) := u_getfT (s_getf (C := er_1) (T := et_1) (N := 4) (ref := "Plateroomprinter$Code") (index := 15) (ci := 1) (k := 1) hq_60 ho_60 ⟨rfl, by decide, ei_1, (List.mem_of_getElem? (i := 199) (by decide +kernel)), .inl rfl⟩ (by decide +kernel) rfl : e_Sn 60 29 (o_getf (e_f1 1 1) 32)) t_60_32
noncomputable def n_60_28 : e_Y := u_ld f_okA f_l0 n_60_29
theorem t_60_28 : e_Sn 60 28 (e_un n_60_28) := u_ldAT f_l0_eq (s_aload (i := .aload_n 0) (len := 1) hq_60 (by decide +kernel) rfl (.inr ⟨0, rfl, rfl, rfl⟩) : e_Sn 60 28 (o_load e_okR 0 29)) t_60_29
noncomputable def n_60_27 : e_Y := u_old (o_ast 0 e_okI 28) n_60_28
theorem t_60_27 : e_Sn 60 27 (e_un n_60_27) := u_oldT (s_iast hq_60 (by decide +kernel) rfl : e_Sn 60 27 (o_ast 0 e_okI 28)) t_60_28 (e_cg_ast 0 e_okI)
noncomputable def n_60_26 : e_Y := u_ld f_okI f_l1 n_60_27
theorem t_60_26 : e_Sn 60 26 (e_un n_60_26) := u_ldIT f_l1_eq (s_iload (i := .iload_n 1) (len := 1) hq_60 (by decide +kernel) rfl (.inr ⟨1, rfl, rfl, rfl⟩) : e_Sn 60 26 (o_load e_okI 1 27)) t_60_27
noncomputable def n_60_25 : e_Y := u_ld f_okI f_l3 n_60_26
theorem t_60_25 : e_Sn 60 25 (e_un n_60_25) := u_ldIT f_l3_eq (s_iload (i := .iload_n 3) (len := 1) hq_60 (by decide +kernel) rfl (.inr ⟨3, rfl, rfl, rfl⟩) : e_Sn 60 25 (o_load e_okI 3 26)) t_60_26
noncomputable def n_60_22 : e_Y := u_getf 1 0 (u_old (o_getf (e_f1 1 0) 25) n_60_25) n_60_25
theorem t_60_22 : e_Sn 60 22 (e_un n_60_22) := u_getfT (s_getf (C := er_1) (T := et_1) (N := 4) (ref := "Plateroomprinter$Code") (index := 11) (ci := 1) (k := 0) hq_60 ho_60 ⟨rfl, by decide, ei_1, (List.mem_of_getElem? (i := 198) (by decide +kernel)), .inl rfl⟩ (by decide +kernel) rfl : e_Sn 60 22 (o_getf (e_f1 1 0) 25)) t_60_25
noncomputable def n_60_21 : e_Y := u_ld f_okA f_l0 n_60_22
theorem t_60_21 : e_Sn 60 21 (e_un n_60_21) := u_ldAT f_l0_eq (s_aload (i := .aload_n 0) (len := 1) hq_60 (by decide +kernel) rfl (.inr ⟨0, rfl, rfl, rfl⟩) : e_Sn 60 21 (o_load e_okR 0 22)) t_60_22
noncomputable def n_60_18 : e_Y := u_jmp y_ge (u_old2 (o_clt 21 45) 21 n_60_21 n_60_45) n_60_21 n_60_45
theorem t_60_18 : e_Sn 60 18 (e_un n_60_18) := u_cltT rfl (s_cge (off := (27)) hq_60 (by decide +kernel) rfl rfl : e_Sn 60 18 (o_clt 21 45)) t_60_21 t_60_45
noncomputable def n_60_15 : e_Y := u_push (.inl 2147485648) n_60_18
theorem t_60_15 : e_Sn 60 15 (e_un n_60_15) := u_pushT (s_sipush (n := (2000)) hq_60 (by decide +kernel) rfl ⟨by decide +kernel, by decide +kernel⟩ : e_Sn 60 15 (o_push (.inl 2147485648) 18)) t_60_18
noncomputable def n_60_14 : e_Y := u_ld f_okI f_l3 n_60_15
theorem t_60_14 : e_Sn 60 14 (e_un n_60_14) := u_ldIT f_l3_eq (s_iload (i := .iload_n 3) (len := 1) hq_60 (by decide +kernel) rfl (.inr ⟨3, rfl, rfl, rfl⟩) : e_Sn 60 14 (o_load e_okI 3 15)) t_60_15
noncomputable def n_60_11 : e_Y := u_if y_ge0 (u_old2 (o_iflt 45 14) 45 n_60_45 n_60_14) n_60_45 n_60_14
theorem t_60_11 : e_Sn 60 11 (e_un n_60_11) := u_ifltT rfl (s_iflt (off := (34)) hq_60 (by decide +kernel) rfl rfl : e_Sn 60 11 (o_iflt 45 14)) t_60_45 t_60_14
noncomputable def n_60_10 : e_Y := u_ld f_okI f_l3 n_60_11
theorem t_60_10 : e_Sn 60 10 (e_un n_60_10) := u_ldIT f_l3_eq (s_iload (i := .iload_n 3) (len := 1) hq_60 (by decide +kernel) rfl (.inr ⟨3, rfl, rfl, rfl⟩) : e_Sn 60 10 (o_load e_okI 3 11)) t_60_11
noncomputable def n_60_9 : e_Y := u_st f_okI f_s3 n_60_10
theorem t_60_9 : e_Sn 60 9 (e_un n_60_9) := u_stIT (fun _ _ _ => f_s3_eq) (s_istore (i := .istore_n 3) (len := 1) hq_60 (by decide +kernel) rfl (.inr ⟨3, rfl, rfl, rfl⟩) : e_Sn 60 9 (o_store e_okI 3 10)) t_60_10
noncomputable def n_60_8 : e_Y := u_bin a_iadd (u_old (o_iadd 9) n_60_9) n_60_9
theorem t_60_8 : e_Sn 60 8 (e_un n_60_8) := u_iaddT (s_iadd hq_60 (by decide +kernel) rfl : e_Sn 60 8 (o_iadd 9)) t_60_9
noncomputable def n_60_5 : e_Y := u_getf 1 3 (u_old (o_getf (e_f1 1 3) 8) n_60_8) n_60_8
theorem t_60_5 : e_Sn 60 5 (e_un n_60_5) := u_getfT (s_getf (C := er_1) (T := et_1) (N := 4) (ref := "Plateroomprinter$Code") (index := 22) (ci := 1) (k := 3) hq_60 ho_60 ⟨rfl, by decide, ei_1, (List.mem_of_getElem? (i := 203) (by decide +kernel)), .inl rfl⟩ (by decide +kernel) rfl : e_Sn 60 5 (o_getf (e_f1 1 3) 8)) t_60_8
noncomputable def n_60_4 : e_Y := u_ld f_okA f_l0 n_60_5
theorem t_60_4 : e_Sn 60 4 (e_un n_60_4) := u_ldAT f_l0_eq (s_aload (i := .aload_n 0) (len := 1) hq_60 (by decide +kernel) rfl (.inr ⟨0, rfl, rfl, rfl⟩) : e_Sn 60 4 (o_load e_okR 0 5)) t_60_5
noncomputable def n_60_1 : e_Y := u_getf 1 2 (u_old (o_getf (e_f1 1 2) 4) n_60_4) n_60_4
theorem t_60_1 : e_Sn 60 1 (e_un n_60_1) := u_getfT (s_getf (C := er_1) (T := et_1) (N := 4) (ref := "Plateroomprinter$Code") (index := 18) (ci := 1) (k := 2) hq_60 ho_60 ⟨rfl, by decide, ei_1, (List.mem_of_getElem? (i := 200) (by decide +kernel)), .inl rfl⟩ (by decide +kernel) rfl : e_Sn 60 1 (o_getf (e_f1 1 2) 4)) t_60_4
noncomputable def n_60_0 : e_Y := u_ld f_okA f_l0 n_60_1
theorem t_60_0 : e_Sn 60 0 (e_un n_60_0) := u_ldAT f_l0_eq (s_aload (i := .aload_n 0) (len := 1) hq_60 (by decide +kernel) rfl (.inr ⟨0, rfl, rfl, rfl⟩) : e_Sn 60 0 (o_load e_okR 0 1)) t_60_1
noncomputable def e_tb_60 : e_X := (e_lf 0 (e_un n_60_0))
theorem e_tk_60 : e_Tb 60 e_tb_60 := (e_lfT t_60_0)
theorem hq_53 : (e_ml[53]?).map (·.2.1) = some prog_1_method_3_code := rfl
theorem ho_53 : (e_ml[53]?).map (·.1.cls) = some "Plateroomprinter" := rfl
theorem hr_53 : (e_ml[53]?).map (·.2.2.2) = some (some .int) := rfl
noncomputable def n_53_97 : e_Y := u_retI
theorem t_53_97 : e_Sn 53 97 (e_un n_53_97) := u_retIT (s_iret hq_53 hr_53 (by decide +kernel) : e_Sn 53 97 (o_ret e_okI))
noncomputable def n_53_94 : e_Y := u_getf 1 3 (u_old (o_getf (e_f1 1 3) 97) n_53_97) n_53_97
theorem t_53_94 : e_Sn 53 94 (e_un n_53_94) := u_getfT (s_getf (C := er_1) (T := et_1) (N := 4) (ref := "Plateroomprinter$Code") (index := 101) (ci := 1) (k := 3) hq_53 ho_53 ⟨rfl, by decide, ei_1, (List.mem_of_getElem? (i := 204) (by decide +kernel)), .inl rfl⟩ (by decide +kernel) rfl : e_Sn 53 94 (o_getf (e_f1 1 3) 97)) t_53_97
noncomputable def n_53_91 : e_Y := u_getf 0 0 (u_old (o_getf (e_f1 0 0) 94) n_53_94) n_53_94
theorem t_53_91 : e_Sn 53 91 (e_un n_53_91) := u_getfT (s_getf (C := er_0) (T := et_0) (N := 17) (ref := "Plateroomprinter") (index := 10) (ci := 0) (k := 0) hq_53 ho_53 ⟨rfl, by decide, ei_0, (List.mem_of_getElem? (i := 680) (by decide +kernel)), .inl rfl⟩ (by decide +kernel) rfl : e_Sn 53 91 (o_getf (e_f1 0 0) 94)) t_53_94
noncomputable def n_53_90 : e_Y := u_ld f_okA f_l0 n_53_91
theorem t_53_90 : e_Sn 53 90 (e_un n_53_90) := u_ldAT f_l0_eq (s_aload (i := .aload_n 0) (len := 1) hq_53 (by decide +kernel) rfl (.inr ⟨0, rfl, rfl, rfl⟩) : e_Sn 53 90 (o_load e_okR 0 91)) t_53_91
noncomputable def n_53_87 : e_Y := u_callV 1 60 4 23 3 n_60_0 n_53_90
theorem t_53_87 : e_Sn 53 87 (e_un n_53_87) := u_callVT rfl (s_callV (ci := 1) (C := er_1) (T := et_1) (N := 4) (index := 109) hq_53 ho_53 hy_60 hp_60 hc_60 hi_60 hd_60 (List.mem_of_getElem? (i := 1590) (by decide +kernel)) hs_60 (List.mem_of_getElem? (i := 1592) (by decide +kernel)) rfl (by decide +kernel) rfl : e_Sn 53 87 (o_callV (e_s1 1 60 4) 3 90)) t_60_0 t_53_90
noncomputable def n_53_85 : e_Y := u_ld f_okI f_l6 n_53_87
theorem t_53_85 : e_Sn 53 85 (e_un n_53_85) := u_ldIT f_l6_eq (s_iload (i := .iload 6) (len := 2) hq_53 (by decide +kernel) rfl (.inl ⟨rfl, rfl⟩) : e_Sn 53 85 (o_load e_okI 6 87)) t_53_87
noncomputable def n_53_83 : e_Y := u_ld f_okI f_l5 n_53_85
theorem t_53_83 : e_Sn 53 83 (e_un n_53_83) := u_ldIT f_l5_eq (s_iload (i := .iload 5) (len := 2) hq_53 (by decide +kernel) rfl (.inl ⟨rfl, rfl⟩) : e_Sn 53 83 (o_load e_okI 5 85)) t_53_85
noncomputable def n_53_80 : e_Y := u_getf 0 0 (u_old (o_getf (e_f1 0 0) 83) n_53_83) n_53_83
theorem t_53_80 : e_Sn 53 80 (e_un n_53_80) := u_getfT (s_getf (C := er_0) (T := et_0) (N := 17) (ref := "Plateroomprinter") (index := 10) (ci := 0) (k := 0) hq_53 ho_53 ⟨rfl, by decide, ei_0, (List.mem_of_getElem? (i := 680) (by decide +kernel)), .inl rfl⟩ (by decide +kernel) rfl : e_Sn 53 80 (o_getf (e_f1 0 0) 83)) t_53_83
noncomputable def n_53_79 : e_Y := u_ld f_okA f_l0 n_53_80
theorem t_53_79 : e_Sn 53 79 (e_un n_53_79) := u_ldAT f_l0_eq (s_aload (i := .aload_n 0) (len := 1) hq_53 (by decide +kernel) rfl (.inr ⟨0, rfl, rfl, rfl⟩) : e_Sn 53 79 (o_load e_okR 0 80)) t_53_80
noncomputable def n_53_76 : e_Y := u_callV 1 60 4 23 3 n_60_0 n_53_79
theorem t_53_76 : e_Sn 53 76 (e_un n_53_76) := u_callVT rfl (s_callV (ci := 1) (C := er_1) (T := et_1) (N := 4) (index := 109) hq_53 ho_53 hy_60 hp_60 hc_60 hi_60 hd_60 (List.mem_of_getElem? (i := 1590) (by decide +kernel)) hs_60 (List.mem_of_getElem? (i := 1592) (by decide +kernel)) rfl (by decide +kernel) rfl : e_Sn 53 76 (o_callV (e_s1 1 60 4) 3 79)) t_60_0 t_53_79
noncomputable def n_53_74 : e_Y := u_ld f_okI f_l4 n_53_76
theorem t_53_74 : e_Sn 53 74 (e_un n_53_74) := u_ldIT f_l4_eq (s_iload (i := .iload 4) (len := 2) hq_53 (by decide +kernel) rfl (.inl ⟨rfl, rfl⟩) : e_Sn 53 74 (o_load e_okI 4 76)) t_53_76
noncomputable def n_53_73 : e_Y := u_ld f_okI f_l3 n_53_74
theorem t_53_73 : e_Sn 53 73 (e_un n_53_73) := u_ldIT f_l3_eq (s_iload (i := .iload_n 3) (len := 1) hq_53 (by decide +kernel) rfl (.inr ⟨3, rfl, rfl, rfl⟩) : e_Sn 53 73 (o_load e_okI 3 74)) t_53_74
noncomputable def n_53_70 : e_Y := u_getf 0 0 (u_old (o_getf (e_f1 0 0) 73) n_53_73) n_53_73
theorem t_53_70 : e_Sn 53 70 (e_un n_53_70) := u_getfT (s_getf (C := er_0) (T := et_0) (N := 17) (ref := "Plateroomprinter") (index := 10) (ci := 0) (k := 0) hq_53 ho_53 ⟨rfl, by decide, ei_0, (List.mem_of_getElem? (i := 680) (by decide +kernel)), .inl rfl⟩ (by decide +kernel) rfl : e_Sn 53 70 (o_getf (e_f1 0 0) 73)) t_53_73
noncomputable def n_53_69 : e_Y := u_ld f_okA f_l0 n_53_70
theorem t_53_69 : e_Sn 53 69 (e_un n_53_69) := u_ldAT f_l0_eq (s_aload (i := .aload_n 0) (len := 1) hq_53 (by decide +kernel) rfl (.inr ⟨0, rfl, rfl, rfl⟩) : e_Sn 53 69 (o_load e_okR 0 70)) t_53_70
noncomputable def n_53_66 : e_Y := u_callV 1 60 4 23 3 n_60_0 n_53_69
theorem t_53_66 : e_Sn 53 66 (e_un n_53_66) := u_callVT rfl (s_callV (ci := 1) (C := er_1) (T := et_1) (N := 4) (index := 109) hq_53 ho_53 hy_60 hp_60 hc_60 hi_60 hd_60 (List.mem_of_getElem? (i := 1590) (by decide +kernel)) hs_60 (List.mem_of_getElem? (i := 1592) (by decide +kernel)) rfl (by decide +kernel) rfl : e_Sn 53 66 (o_callV (e_s1 1 60 4) 3 69)) t_60_0 t_53_69
noncomputable def n_53_65 : e_Y := u_ld f_okI f_l2 n_53_66
theorem t_53_65 : e_Sn 53 65 (e_un n_53_65) := u_ldIT f_l2_eq (s_iload (i := .iload_n 2) (len := 1) hq_53 (by decide +kernel) rfl (.inr ⟨2, rfl, rfl, rfl⟩) : e_Sn 53 65 (o_load e_okI 2 66)) t_53_66
noncomputable def n_53_64 : e_Y := u_ld f_okI f_l1 n_53_65
theorem t_53_64 : e_Sn 53 64 (e_un n_53_64) := u_ldIT f_l1_eq (s_iload (i := .iload_n 1) (len := 1) hq_53 (by decide +kernel) rfl (.inr ⟨1, rfl, rfl, rfl⟩) : e_Sn 53 64 (o_load e_okI 1 65)) t_53_65
noncomputable def n_53_61 : e_Y := u_getf 0 0 (u_old (o_getf (e_f1 0 0) 64) n_53_64) n_53_64
theorem t_53_61 : e_Sn 53 61 (e_un n_53_61) := u_getfT (s_getf (C := er_0) (T := et_0) (N := 17) (ref := "Plateroomprinter") (index := 10) (ci := 0) (k := 0) hq_53 ho_53 ⟨rfl, by decide, ei_0, (List.mem_of_getElem? (i := 680) (by decide +kernel)), .inl rfl⟩ (by decide +kernel) rfl : e_Sn 53 61 (o_getf (e_f1 0 0) 64)) t_53_64
noncomputable def n_53_60 : e_Y := u_ld f_okA f_l0 n_53_61
theorem t_53_60 : e_Sn 53 60 (e_un n_53_60) := u_ldAT f_l0_eq (s_aload (i := .aload_n 0) (len := 1) hq_53 (by decide +kernel) rfl (.inr ⟨0, rfl, rfl, rfl⟩) : e_Sn 53 60 (o_load e_okR 0 61)) t_53_61
noncomputable def n_53_47 : e_Y := u_jmp y_le (u_old2 (o_cgt 50 60) 50 (u_at 50) n_53_60) (u_at 50) n_53_60
theorem t_53_47 : e_Sn 53 47 (e_un n_53_47) := u_cgtT rfl (s_cle (off := (13)) hq_53 (by decide +kernel) rfl rfl : e_Sn 53 47 (o_cgt 50 60)) u_atT t_53_60
noncomputable def n_53_44 : e_Y := u_push (.inl 2147484045) n_53_47
theorem t_53_44 : e_Sn 53 44 (e_un n_53_44) := u_pushT (s_sipush (n := (397)) hq_53 (by decide +kernel) rfl ⟨by decide +kernel, by decide +kernel⟩ : e_Sn 53 44 (o_push (.inl 2147484045) 47)) t_53_47
noncomputable def n_53_41 : e_Y := u_getf 1 3 (u_old (o_getf (e_f1 1 3) 44) n_53_44) n_53_44
theorem t_53_41 : e_Sn 53 41 (e_un n_53_41) := u_getfT (s_getf (C := er_1) (T := et_1) (N := 4) (ref := "Plateroomprinter$Code") (index := 101) (ci := 1) (k := 3) hq_53 ho_53 ⟨rfl, by decide, ei_1, (List.mem_of_getElem? (i := 204) (by decide +kernel)), .inl rfl⟩ (by decide +kernel) rfl : e_Sn 53 41 (o_getf (e_f1 1 3) 44)) t_53_44
noncomputable def n_53_38 : e_Y := u_getf 0 0 (u_old (o_getf (e_f1 0 0) 41) n_53_41) n_53_41
theorem t_53_38 : e_Sn 53 38 (e_un n_53_38) := u_getfT (s_getf (C := er_0) (T := et_0) (N := 17) (ref := "Plateroomprinter") (index := 10) (ci := 0) (k := 0) hq_53 ho_53 ⟨rfl, by decide, ei_0, (List.mem_of_getElem? (i := 680) (by decide +kernel)), .inl rfl⟩ (by decide +kernel) rfl : e_Sn 53 38 (o_getf (e_f1 0 0) 41)) t_53_41
noncomputable def n_53_37 : e_Y := u_ld f_okA f_l0 n_53_38
theorem t_53_37 : e_Sn 53 37 (e_un n_53_37) := u_ldAT f_l0_eq (s_aload (i := .aload_n 0) (len := 1) hq_53 (by decide +kernel) rfl (.inr ⟨0, rfl, rfl, rfl⟩) : e_Sn 53 37 (o_load e_okR 0 38)) t_53_38
noncomputable def n_53_27 : e_Y := u_tab (o_throw 0)
theorem t_53_27 : e_Sn 53 27 (e_un n_53_27) := u_tabT (s_throw (ik := 94) (is := 96) (ic := 98) (X := "java/lang/IllegalArgumentException") (text := "no such token") hq_53 ho_53 hy_53 hc_53 rfl (by decide +kernel) e_wok0 (by simp [e_sr]) (by decide +kernel) (by decide +kernel) (.inl ⟨(by decide +kernel), (by decide +kernel), (by decide +kernel)⟩) : e_Sn 53 27 (o_throw 0))
noncomputable def n_53_24 : e_Y := u_if y_ne0 (u_old2 (o_ifeq 27 37) 27 n_53_27 n_53_37) n_53_27 n_53_37
theorem t_53_24 : e_Sn 53 24 (e_un n_53_24) := u_ifeqT rfl (s_ifne (off := (13)) hq_53 (by decide +kernel) rfl rfl : e_Sn 53 24 (o_ifeq 27 37)) t_53_27 t_53_37
noncomputable def n_53_21 : e_Y := u_callS 30 2 21 2 n_30_0 n_53_24
theorem t_53_21 : e_Sn 53 21 (e_un n_53_21) := u_callST rfl (s_callS (index := 90) hq_53 ho_53 hy_30 hp_30 hc_30 hi_30 hd_30 (List.mem_of_getElem? (i := 1570) (by decide +kernel)) hs_30 (by decide +kernel) rfl : e_Sn 53 21 (o_callS 30 2 2 24)) t_30_0 t_53_24
noncomputable def n_53_19 : e_Y := u_ld f_okI f_l6 n_53_21
theorem t_53_19 : e_Sn 53 19 (e_un n_53_19) := u_ldIT f_l6_eq (s_iload (i := .iload 6) (len := 2) hq_53 (by decide +kernel) rfl (.inl ⟨rfl, rfl⟩) : e_Sn 53 19 (o_load e_okI 6 21)) t_53_21
noncomputable def n_53_17 : e_Y := u_ld f_okI f_l5 n_53_19
theorem t_53_17 : e_Sn 53 17 (e_un n_53_17) := u_ldIT f_l5_eq (s_iload (i := .iload 5) (len := 2) hq_53 (by decide +kernel) rfl (.inl ⟨rfl, rfl⟩) : e_Sn 53 17 (o_load e_okI 5 19)) t_53_19
noncomputable def n_53_14 : e_Y := u_if y_ne0 (u_old2 (o_ifeq 27 17) 27 n_53_27 n_53_17) n_53_27 n_53_17
theorem t_53_14 : e_Sn 53 14 (e_un n_53_14) := u_ifeqT rfl (s_ifeq (off := (13)) hq_53 (by decide +kernel) rfl rfl : e_Sn 53 14 (o_ifeq 27 17)) t_53_27 t_53_17
noncomputable def n_53_11 : e_Y := u_callS 30 2 21 2 n_30_0 n_53_14
theorem t_53_11 : e_Sn 53 11 (e_un n_53_11) := u_callST rfl (s_callS (index := 90) hq_53 ho_53 hy_30 hp_30 hc_30 hi_30 hd_30 (List.mem_of_getElem? (i := 1570) (by decide +kernel)) hs_30 (by decide +kernel) rfl : e_Sn 53 11 (o_callS 30 2 2 14)) t_30_0 t_53_14
noncomputable def n_53_9 : e_Y := u_ld f_okI f_l4 n_53_11
theorem t_53_9 : e_Sn 53 9 (e_un n_53_9) := u_ldIT f_l4_eq (s_iload (i := .iload 4) (len := 2) hq_53 (by decide +kernel) rfl (.inl ⟨rfl, rfl⟩) : e_Sn 53 9 (o_load e_okI 4 11)) t_53_11
noncomputable def n_53_8 : e_Y := u_ld f_okI f_l3 n_53_9
theorem t_53_8 : e_Sn 53 8 (e_un n_53_8) := u_ldIT f_l3_eq (s_iload (i := .iload_n 3) (len := 1) hq_53 (by decide +kernel) rfl (.inr ⟨3, rfl, rfl, rfl⟩) : e_Sn 53 8 (o_load e_okI 3 9)) t_53_9
noncomputable def n_53_5 : e_Y := u_if y_ne0 (u_old2 (o_ifeq 27 8) 27 n_53_27 n_53_8) n_53_27 n_53_8
theorem t_53_5 : e_Sn 53 5 (e_un n_53_5) := u_ifeqT rfl (s_ifeq (off := (22)) hq_53 (by decide +kernel) rfl rfl : e_Sn 53 5 (o_ifeq 27 8)) t_53_27 t_53_8
noncomputable def n_53_2 : e_Y := u_callS 30 2 21 2 n_30_0 n_53_5
theorem t_53_2 : e_Sn 53 2 (e_un n_53_2) := u_callST rfl (s_callS (index := 90) hq_53 ho_53 hy_30 hp_30 hc_30 hi_30 hd_30 (List.mem_of_getElem? (i := 1570) (by decide +kernel)) hs_30 (by decide +kernel) rfl : e_Sn 53 2 (o_callS 30 2 2 5)) t_30_0 t_53_5
noncomputable def n_53_1 : e_Y := u_ld f_okI f_l2 n_53_2
theorem t_53_1 : e_Sn 53 1 (e_un n_53_1) := u_ldIT f_l2_eq (s_iload (i := .iload_n 2) (len := 1) hq_53 (by decide +kernel) rfl (.inr ⟨2, rfl, rfl, rfl⟩) : e_Sn 53 1 (o_load e_okI 2 2)) t_53_2
noncomputable def n_53_0 : e_Y := u_ld f_okI f_l1 n_53_1
theorem t_53_0 : e_Sn 53 0 (e_un n_53_0) := u_ldIT f_l1_eq (s_iload (i := .iload_n 1) (len := 1) hq_53 (by decide +kernel) rfl (.inr ⟨1, rfl, rfl, rfl⟩) : e_Sn 53 0 (o_load e_okI 1 1)) t_53_1
noncomputable def e_tb_53 : e_X := (e_lf 0 (e_un n_53_0))
theorem e_tk_53 : e_Tb 53 e_tb_53 := (e_lfT t_53_0)
theorem hq_54 : (e_ml[54]?).map (·.2.1) = some prog_1_method_2_code := rfl
theorem ho_54 : (e_ml[54]?).map (·.1.cls) = some "Plateroomprinter" := rfl
theorem hr_54 : (e_ml[54]?).map (·.2.2.2) = some (some .int) := rfl
noncomputable def n_54_57 : e_Y := u_retI
theorem t_54_57 : e_Sn 54 57 (e_un n_54_57) := u_retIT (s_iret hq_54 hr_54 (by decide +kernel) : e_Sn 54 57 (o_ret e_okI))
noncomputable def n_54_54 : e_Y := u_getf 1 3 (u_old (o_getf (e_f1 1 3) 57) n_54_57) n_54_57
theorem t_54_54 : e_Sn 54 54 (e_un n_54_54) := u_getfT (s_getf (C := er_1) (T := et_1) (N := 4) (ref := "Plateroomprinter$Code") (index := 101) (ci := 1) (k := 3) hq_54 ho_54 ⟨rfl, by decide, ei_1, (List.mem_of_getElem? (i := 204) (by decide +kernel)), .inl rfl⟩ (by decide +kernel) rfl : e_Sn 54 54 (o_getf (e_f1 1 3) 57)) t_54_57
noncomputable def n_54_51 : e_Y := u_getf 0 0 (u_old (o_getf (e_f1 0 0) 54) n_54_54) n_54_54
theorem t_54_51 : e_Sn 54 51 (e_un n_54_51) := u_getfT (s_getf (C := er_0) (T := et_0) (N := 17) (ref := "Plateroomprinter") (index := 10) (ci := 0) (k := 0) hq_54 ho_54 ⟨rfl, by decide, ei_0, (List.mem_of_getElem? (i := 680) (by decide +kernel)), .inl rfl⟩ (by decide +kernel) rfl : e_Sn 54 51 (o_getf (e_f1 0 0) 54)) t_54_54
noncomputable def n_54_50 : e_Y := u_ld f_okA f_l0 n_54_51
theorem t_54_50 : e_Sn 54 50 (e_un n_54_50) := u_ldAT f_l0_eq (s_aload (i := .aload_n 0) (len := 1) hq_54 (by decide +kernel) rfl (.inr ⟨0, rfl, rfl, rfl⟩) : e_Sn 54 50 (o_load e_okR 0 51)) t_54_51
noncomputable def n_54_47 : e_Y := u_callV 1 60 4 23 3 n_60_0 n_54_50
theorem t_54_47 : e_Sn 54 47 (e_un n_54_47) := u_callVT rfl (s_callV (ci := 1) (C := er_1) (T := et_1) (N := 4) (index := 109) hq_54 ho_54 hy_60 hp_60 hc_60 hi_60 hd_60 (List.mem_of_getElem? (i := 1590) (by decide +kernel)) hs_60 (List.mem_of_getElem? (i := 1592) (by decide +kernel)) rfl (by decide +kernel) rfl : e_Sn 54 47 (o_callV (e_s1 1 60 4) 3 50)) t_60_0 t_54_50
noncomputable def n_54_46 : e_Y := u_ld f_okI f_l2 n_54_47
theorem t_54_46 : e_Sn 54 46 (e_un n_54_46) := u_ldIT f_l2_eq (s_iload (i := .iload_n 2) (len := 1) hq_54 (by decide +kernel) rfl (.inr ⟨2, rfl, rfl, rfl⟩) : e_Sn 54 46 (o_load e_okI 2 47)) t_54_47
noncomputable def n_54_45 : e_Y := u_ld f_okI f_l1 n_54_46
theorem t_54_45 : e_Sn 54 45 (e_un n_54_45) := u_ldIT f_l1_eq (s_iload (i := .iload_n 1) (len := 1) hq_54 (by decide +kernel) rfl (.inr ⟨1, rfl, rfl, rfl⟩) : e_Sn 54 45 (o_load e_okI 1 46)) t_54_46
noncomputable def n_54_42 : e_Y := u_getf 0 0 (u_old (o_getf (e_f1 0 0) 45) n_54_45) n_54_45
theorem t_54_42 : e_Sn 54 42 (e_un n_54_42) := u_getfT (s_getf (C := er_0) (T := et_0) (N := 17) (ref := "Plateroomprinter") (index := 10) (ci := 0) (k := 0) hq_54 ho_54 ⟨rfl, by decide, ei_0, (List.mem_of_getElem? (i := 680) (by decide +kernel)), .inl rfl⟩ (by decide +kernel) rfl : e_Sn 54 42 (o_getf (e_f1 0 0) 45)) t_54_45
noncomputable def n_54_41 : e_Y := u_ld f_okA f_l0 n_54_42
theorem t_54_41 : e_Sn 54 41 (e_un n_54_41) := u_ldAT f_l0_eq (s_aload (i := .aload_n 0) (len := 1) hq_54 (by decide +kernel) rfl (.inr ⟨0, rfl, rfl, rfl⟩) : e_Sn 54 41 (o_load e_okR 0 42)) t_54_42
noncomputable def n_54_28 : e_Y := u_jmp y_ge (u_old2 (o_clt 41 31) 41 n_54_41 (u_at 31)) n_54_41 (u_at 31)
theorem t_54_28 : e_Sn 54 28 (e_un n_54_28) := u_cltT rfl (s_clt (off := (13)) hq_54 (by decide +kernel) rfl rfl : e_Sn 54 28 (o_clt 41 31)) t_54_41 u_atT
noncomputable def n_54_25 : e_Y := u_push (.inl 2147484048) n_54_28
theorem t_54_25 : e_Sn 54 25 (e_un n_54_25) := u_pushT (s_sipush (n := (400)) hq_54 (by decide +kernel) rfl ⟨by decide +kernel, by decide +kernel⟩ : e_Sn 54 25 (o_push (.inl 2147484048) 28)) t_54_28
noncomputable def n_54_22 : e_Y := u_getf 1 3 (u_old (o_getf (e_f1 1 3) 25) n_54_25) n_54_25
theorem t_54_22 : e_Sn 54 22 (e_un n_54_22) := u_getfT (s_getf (C := er_1) (T := et_1) (N := 4) (ref := "Plateroomprinter$Code") (index := 101) (ci := 1) (k := 3) hq_54 ho_54 ⟨rfl, by decide, ei_1, (List.mem_of_getElem? (i := 204) (by decide +kernel)), .inl rfl⟩ (by decide +kernel) rfl : e_Sn 54 22 (o_getf (e_f1 1 3) 25)) t_54_25
noncomputable def n_54_19 : e_Y := u_getf 0 0 (u_old (o_getf (e_f1 0 0) 22) n_54_22) n_54_22
theorem t_54_19 : e_Sn 54 19 (e_un n_54_19) := u_getfT (s_getf (C := er_0) (T := et_0) (N := 17) (ref := "Plateroomprinter") (index := 10) (ci := 0) (k := 0) hq_54 ho_54 ⟨rfl, by decide, ei_0, (List.mem_of_getElem? (i := 680) (by decide +kernel)), .inl rfl⟩ (by decide +kernel) rfl : e_Sn 54 19 (o_getf (e_f1 0 0) 22)) t_54_22
noncomputable def n_54_18 : e_Y := u_ld f_okA f_l0 n_54_19
theorem t_54_18 : e_Sn 54 18 (e_un n_54_18) := u_ldAT f_l0_eq (s_aload (i := .aload_n 0) (len := 1) hq_54 (by decide +kernel) rfl (.inr ⟨0, rfl, rfl, rfl⟩) : e_Sn 54 18 (o_load e_okR 0 19)) t_54_19
noncomputable def n_54_8 : e_Y := u_tab (o_throw 0)
theorem t_54_8 : e_Sn 54 8 (e_un n_54_8) := u_tabT (s_throw (ik := 94) (is := 96) (ic := 98) (X := "java/lang/IllegalArgumentException") (text := "no such token") hq_54 ho_54 hy_54 hc_54 rfl (by decide +kernel) e_wok0 (by simp [e_sr]) (by decide +kernel) (by decide +kernel) (.inl ⟨(by decide +kernel), (by decide +kernel), (by decide +kernel)⟩) : e_Sn 54 8 (o_throw 0))
noncomputable def n_54_5 : e_Y := u_if y_ne0 (u_old2 (o_ifeq 8 18) 8 n_54_8 n_54_18) n_54_8 n_54_18
theorem t_54_5 : e_Sn 54 5 (e_un n_54_5) := u_ifeqT rfl (s_ifne (off := (13)) hq_54 (by decide +kernel) rfl rfl : e_Sn 54 5 (o_ifeq 8 18)) t_54_8 t_54_18
noncomputable def n_54_2 : e_Y := u_callS 30 2 21 2 n_30_0 n_54_5
theorem t_54_2 : e_Sn 54 2 (e_un n_54_2) := u_callST rfl (s_callS (index := 90) hq_54 ho_54 hy_30 hp_30 hc_30 hi_30 hd_30 (List.mem_of_getElem? (i := 1570) (by decide +kernel)) hs_30 (by decide +kernel) rfl : e_Sn 54 2 (o_callS 30 2 2 5)) t_30_0 t_54_5
noncomputable def n_54_1 : e_Y := u_ld f_okI f_l2 n_54_2
theorem t_54_1 : e_Sn 54 1 (e_un n_54_1) := u_ldIT f_l2_eq (s_iload (i := .iload_n 2) (len := 1) hq_54 (by decide +kernel) rfl (.inr ⟨2, rfl, rfl, rfl⟩) : e_Sn 54 1 (o_load e_okI 2 2)) t_54_2
noncomputable def n_54_0 : e_Y := u_ld f_okI f_l1 n_54_1
theorem t_54_0 : e_Sn 54 0 (e_un n_54_0) := u_ldIT f_l1_eq (s_iload (i := .iload_n 1) (len := 1) hq_54 (by decide +kernel) rfl (.inr ⟨1, rfl, rfl, rfl⟩) : e_Sn 54 0 (o_load e_okI 1 1)) t_54_1
noncomputable def e_tb_54 : e_X := (e_lf 0 (e_un n_54_0))
theorem e_tk_54 : e_Tb 54 e_tb_54 := (e_lfT t_54_0)
theorem hq_55 : (e_ml[55]?).map (·.2.1) = some prog_1_method_12_code := rfl
theorem ho_55 : (e_ml[55]?).map (·.1.cls) = some "Plateroomprinter" := rfl
theorem hr_55 : (e_ml[55]?).map (·.2.2.2) = some (some .int) := rfl
noncomputable def n_55_15 : e_Y := u_tab (o_throw 2)
theorem t_55_15 : e_Sn 55 15 (e_un n_55_15) := u_tabT (s_throw (ik := 175) (is := 177) (ic := 179) (X := "java/lang/IndexOutOfBoundsException") (text := "no such place") hq_55 ho_55 hy_55 hc_55 rfl (by decide +kernel) e_wok2 (by simp [e_sr]) (by decide +kernel) (by decide +kernel) (.inl ⟨(by decide +kernel), (by decide +kernel), (by decide +kernel)⟩) : e_Sn 55 15 (o_throw 2))
noncomputable def n_55_12 : e_Y := u_jmp y_ge (u_old2 (o_clt 25 15) 25 (u_at 25) n_55_15) (u_at 25) n_55_15
theorem t_55_12 : e_Sn 55 12 (e_un n_55_12) := u_cltT rfl (s_clt (off := (13)) hq_55 (by decide +kernel) rfl rfl : e_Sn 55 12 (o_clt 25 15)) u_atT t_55_15
noncomputable def n_55_9 : e_Y := u_getf 1 3 (u_old (o_getf (e_f1 1 3) 12) n_55_12) n_55_12
theorem t_55_9 : e_Sn 55 9 (e_un n_55_9) := u_getfT (s_getf (C := er_1) (T := et_1) (N := 4) (ref := "Plateroomprinter$Code") (index := 101) (ci := 1) (k := 3) hq_55 ho_55 ⟨rfl, by decide, ei_1, (List.mem_of_getElem? (i := 204) (by decide +kernel)), .inl rfl⟩ (by decide +kernel) rfl : e_Sn 55 9 (o_getf (e_f1 1 3) 12)) t_55_12
noncomputable def n_55_6 : e_Y := u_getf 0 0 (u_old (o_getf (e_f1 0 0) 9) n_55_9) n_55_9
theorem t_55_6 : e_Sn 55 6 (e_un n_55_6) := u_getfT (s_getf (C := er_0) (T := et_0) (N := 17) (ref := "Plateroomprinter") (index := 10) (ci := 0) (k := 0) hq_55 ho_55 ⟨rfl, by decide, ei_0, (List.mem_of_getElem? (i := 680) (by decide +kernel)), .inl rfl⟩ (by decide +kernel) rfl : e_Sn 55 6 (o_getf (e_f1 0 0) 9)) t_55_9
noncomputable def n_55_5 : e_Y := u_ld f_okA f_l0 n_55_6
theorem t_55_5 : e_Sn 55 5 (e_un n_55_5) := u_ldAT f_l0_eq (s_aload (i := .aload_n 0) (len := 1) hq_55 (by decide +kernel) rfl (.inr ⟨0, rfl, rfl, rfl⟩) : e_Sn 55 5 (o_load e_okR 0 6)) t_55_6
noncomputable def n_55_4 : e_Y := u_ld f_okI f_l1 n_55_5
theorem t_55_4 : e_Sn 55 4 (e_un n_55_4) := u_ldIT f_l1_eq (s_iload (i := .iload_n 1) (len := 1) hq_55 (by decide +kernel) rfl (.inr ⟨1, rfl, rfl, rfl⟩) : e_Sn 55 4 (o_load e_okI 1 5)) t_55_5
noncomputable def n_55_1 : e_Y := u_if y_ge0 (u_old2 (o_iflt 15 4) 15 n_55_15 n_55_4) n_55_15 n_55_4
theorem t_55_1 : e_Sn 55 1 (e_un n_55_1) := u_ifltT rfl (s_iflt (off := (14)) hq_55 (by decide +kernel) rfl rfl : e_Sn 55 1 (o_iflt 15 4)) t_55_15 t_55_4
noncomputable def n_55_0 : e_Y := u_ld f_okI f_l1 n_55_1
theorem t_55_0 : e_Sn 55 0 (e_un n_55_0) := u_ldIT f_l1_eq (s_iload (i := .iload_n 1) (len := 1) hq_55 (by decide +kernel) rfl (.inr ⟨1, rfl, rfl, rfl⟩) : e_Sn 55 0 (o_load e_okI 1 1)) t_55_1
noncomputable def e_tb_55 : e_X := (e_lf 0 (e_un n_55_0))
theorem e_tk_55 : e_Tb 55 e_tb_55 := (e_lfT t_55_0)
theorem hq_58 : (e_ml[58]?).map (·.2.1) = some prog_1_method_5_code := rfl
theorem ho_58 : (e_ml[58]?).map (·.1.cls) = some "Plateroomprinter" := rfl
theorem hr_58 : (e_ml[58]?).map (·.2.2.2) = some (some .int) := rfl
noncomputable def n_58_17 : e_Y := u_retI
theorem t_58_17 : e_Sn 58 17 (e_un n_58_17) := u_retIT (s_iret hq_58 hr_58 (by decide +kernel) : e_Sn 58 17 (o_ret e_okI))
noncomputable def n_58_16 : e_Y := u_ld f_okI f_l1 n_58_17
theorem t_58_16 : e_Sn 58 16 (e_un n_58_16) := u_ldIT f_l1_eq (s_iload (i := .iload_n 1) (len := 1) hq_58 (by decide +kernel) rfl (.inr ⟨1, rfl, rfl, rfl⟩) : e_Sn 58 16 (o_load e_okI 1 17)) t_58_17
noncomputable def n_58_13 : e_Y := u_old (o_putf (e_f1 1 3) e_okI 16) n_58_16
theorem t_58_13 : e_Sn 58 13 (e_un n_58_13) := u_oldT (s_putf (ty0 := ey_1) (ok := e_okI) (C := er_1) (T := et_1) (N := 4) (ref := "Plateroomprinter$Code") (index := 101) (ci := 1) (k := 3) hq_58 ho_58 ⟨rfl, by decide, ei_1, (List.mem_of_getElem? (i := 204) (by decide +kernel)), .inl rfl⟩ eo_1 en_1 e_oksI (.inl rfl) (by decide +kernel) rfl : e_Sn 58 13 (o_putf (e_f1 1 3) e_okI 16)) t_58_16 (e_cg_putf (e_f1 1 3) e_okI)
noncomputable def n_58_12 : e_Y := u_push (.inl 2147483648) n_58_13
theorem t_58_12 : e_Sn 58 12 (e_un n_58_12) := u_pushT (s_iconst (n := (0)) hq_58 (by decide +kernel) rfl ⟨by decide +kernel, by decide +kernel⟩ : e_Sn 58 12 (o_push (.inl 2147483648) 13)) t_58_13
noncomputable def n_58_9 : e_Y := u_getf 0 0 (u_old (o_getf (e_f1 0 0) 12) n_58_12) n_58_12
theorem t_58_9 : e_Sn 58 9 (e_un n_58_9) := u_getfT (s_getf (C := er_0) (T := et_0) (N := 17) (ref := "Plateroomprinter") (index := 10) (ci := 0) (k := 0) hq_58 ho_58 ⟨rfl, by decide, ei_0, (List.mem_of_getElem? (i := 680) (by decide +kernel)), .inl rfl⟩ (by decide +kernel) rfl : e_Sn 58 9 (o_getf (e_f1 0 0) 12)) t_58_12
noncomputable def n_58_8 : e_Y := u_ld f_okA f_l0 n_58_9
theorem t_58_8 : e_Sn 58 8 (e_un n_58_8) := u_ldAT f_l0_eq (s_aload (i := .aload_n 0) (len := 1) hq_58 (by decide +kernel) rfl (.inr ⟨0, rfl, rfl, rfl⟩) : e_Sn 58 8 (o_load e_okR 0 9)) t_58_9
noncomputable def n_58_7 : e_Y := u_st f_okI f_s1 n_58_8
theorem t_58_7 : e_Sn 58 7 (e_un n_58_7) := u_stIT (fun _ _ _ => f_s1_eq) (s_istore (i := .istore_n 1) (len := 1) hq_58 (by decide +kernel) rfl (.inr ⟨1, rfl, rfl, rfl⟩) : e_Sn 58 7 (o_store e_okI 1 8)) t_58_8
noncomputable def n_58_4 : e_Y := u_getf 1 3 (u_old (o_getf (e_f1 1 3) 7) n_58_7) n_58_7
theorem t_58_4 : e_Sn 58 4 (e_un n_58_4) := u_getfT (s_getf (C := er_1) (T := et_1) (N := 4) (ref := "Plateroomprinter$Code") (index := 101) (ci := 1) (k := 3) hq_58 ho_58 ⟨rfl, by decide, ei_1, (List.mem_of_getElem? (i := 204) (by decide +kernel)), .inl rfl⟩ (by decide +kernel) rfl : e_Sn 58 4 (o_getf (e_f1 1 3) 7)) t_58_7
noncomputable def n_58_1 : e_Y := u_getf 0 0 (u_old (o_getf (e_f1 0 0) 4) n_58_4) n_58_4
theorem t_58_1 : e_Sn 58 1 (e_un n_58_1) := u_getfT (s_getf (C := er_0) (T := et_0) (N := 17) (ref := "Plateroomprinter") (index := 10) (ci := 0) (k := 0) hq_58 ho_58 ⟨rfl, by decide, ei_0, (List.mem_of_getElem? (i := 680) (by decide +kernel)), .inl rfl⟩ (by decide +kernel) rfl : e_Sn 58 1 (o_getf (e_f1 0 0) 4)) t_58_4
noncomputable def n_58_0 : e_Y := u_ld f_okA f_l0 n_58_1
theorem t_58_0 : e_Sn 58 0 (e_un n_58_0) := u_ldAT f_l0_eq (s_aload (i := .aload_n 0) (len := 1) hq_58 (by decide +kernel) rfl (.inr ⟨0, rfl, rfl, rfl⟩) : e_Sn 58 0 (o_load e_okR 0 1)) t_58_1
noncomputable def e_tb_58 : e_X := (e_lf 0 (e_un n_58_0))
theorem e_tk_58 : e_Tb 58 e_tb_58 := (e_lfT t_58_0)
theorem hq_104 : (e_ml[104]?).map (·.2.1) = some method_26_code := rfl
theorem ho_104 : (e_ml[104]?).map (·.1.cls) = some "PlateroomprinterLaw" := rfl
theorem hr_104 : (e_ml[104]?).map (·.2.2.2) = some (some .int) := rfl
noncomputable def n_104_23 : e_Y := u_retI
theorem t_104_23 : e_Sn 104 23 (e_un n_104_23) := u_retIT (s_iret hq_104 hr_104 (by decide +kernel) : e_Sn 104 23 (o_ret e_okI))
noncomputable def n_104_22 : e_Y := u_push (.inl 2147483648) n_104_23
theorem t_104_22 : e_Sn 104 22 (e_un n_104_22) := u_pushT (s_iconst (n := (0)) hq_104 (by decide +kernel) rfl ⟨by decide +kernel, by decide +kernel⟩ : e_Sn 104 22 (o_push (.inl 2147483648) 23)) t_104_23
noncomputable def n_104_21 : e_Y := u_retI
theorem t_104_21 : e_Sn 104 21 (e_un n_104_21) := u_retIT (s_iret hq_104 hr_104 (by decide +kernel) : e_Sn 104 21 (o_ret e_okI))
noncomputable def n_104_20 : e_Y := u_push (.inl 2147483649) n_104_21
theorem t_104_20 : e_Sn 104 20 (e_un n_104_20) := u_pushT (s_iconst (n := (1)) hq_104 (by decide +kernel) rfl ⟨by decide +kernel, by decide +kernel⟩ : e_Sn 104 20 (o_push (.inl 2147483649) 21)) t_104_21
noncomputable def n_104_19 : e_Y := u_st f_okA f_s3 n_104_20
theorem t_104_19 : e_Sn 104 19 (e_un n_104_19) := u_stAT (fun _ _ _ => f_s3_eq) (s_astore (i := .astore_n 3) (len := 1) hq_104 (by decide +kernel) rfl (.inr ⟨3, rfl, rfl, rfl⟩) : e_Sn 104 19 (o_store e_okR 3 20)) t_104_20
noncomputable def n_104_16 : e_Y := n_104_22
theorem t_104_16 : e_Sn 104 16 (e_un n_104_16) := u_gotoT (s_goto (off := (6)) hq_104 (by decide +kernel) rfl : e_Sn 104 16 (o_goto 22)) t_104_22
noncomputable def n_104_15 : e_Y := u_old (o_ast 2 e_okL 16) n_104_16
theorem t_104_15 : e_Sn 104 15 (e_un n_104_15) := u_oldT (s_last hq_104 (by decide +kernel) rfl : e_Sn 104 15 (o_ast 2 e_okL 16)) t_104_16 (e_cg_ast 2 e_okL)
noncomputable def n_104_11 : e_Y := n_104_15
theorem t_104_11 : e_Sn 104 11 (e_un n_104_11) := u_gotoT (s_goto (off := (4)) hq_104 (by decide +kernel) rfl : e_Sn 104 11 (o_goto 15)) t_104_15
noncomputable def n_104_10 : e_Y := u_push (e_L 9223372036854775809) n_104_11
theorem t_104_10 : e_Sn 104 10 (e_un n_104_10) := u_pushT (s_lconst (n := 1) hq_104 (by decide +kernel) rfl ⟨by decide +kernel, by decide +kernel⟩ : e_Sn 104 10 (o_push (e_L 9223372036854775809) 11)) t_104_11
noncomputable def n_104_7 : e_Y := u_if y_ne0 (u_old2 (o_ifeq 14 10) 14 (u_at 14) n_104_10) (u_at 14) n_104_10
theorem t_104_7 : e_Sn 104 7 (e_un n_104_7) := u_ifeqT rfl (s_ifeq (off := (7)) hq_104 (by decide +kernel) rfl rfl : e_Sn 104 7 (o_ifeq 14 10)) u_atT t_104_10
noncomputable def n_104_4 : e_Y := u_tab (o_callVX (e_s1 0 2 2) 2 7 [(0, 19)])
theorem t_104_4 : e_Sn 104 4 (e_un n_104_4) := u_tabT (s_callVX (ci := 0) (C := er_0) (T := et_0) (N := 17) (index := 91) hq_104 ho_104 hy_2 hp_2 hc_2 hi_2 hd_2 (List.mem_of_getElem? (i := 1711) (by decide +kernel)) hs_2 (List.mem_of_getElem? (i := 1713) (by decide +kernel)) rfl (by decide +kernel) rfl hy_104 hc_104 (e_hc1 rfl rfl (by decide) (List.mem_of_getElem? (i := 1564) (by decide +kernel)) (List.mem_of_getElem? (i := 1296) (by decide +kernel))) : e_Sn 104 4 (o_callVX (e_s1 0 2 2) 2 7 [(0, 19)]))
noncomputable def n_104_3 : e_Y := u_ld f_okI f_l1 n_104_4
theorem t_104_3 : e_Sn 104 3 (e_un n_104_3) := u_ldIT f_l1_eq (s_iload (i := .iload_n 1) (len := 1) hq_104 (by decide +kernel) rfl (.inr ⟨1, rfl, rfl, rfl⟩) : e_Sn 104 3 (o_load e_okI 1 4)) t_104_4
noncomputable def n_104_2 : e_Y := u_ld f_okA f_l0 n_104_3
theorem t_104_2 : e_Sn 104 2 (e_un n_104_2) := u_ldAT f_l0_eq (s_aload (i := .aload_n 0) (len := 1) hq_104 (by decide +kernel) rfl (.inr ⟨0, rfl, rfl, rfl⟩) : e_Sn 104 2 (o_load e_okR 0 3)) t_104_3
noncomputable def n_104_1 : e_Y := u_push (.inl 2147483648) n_104_2
theorem t_104_1 : e_Sn 104 1 (e_un n_104_1) := u_pushT (s_iconst (n := (0)) hq_104 (by decide +kernel) rfl ⟨by decide +kernel, by decide +kernel⟩ : e_Sn 104 1 (o_push (.inl 2147483648) 2)) t_104_2
noncomputable def n_104_0 : e_Y := u_ld f_okA f_l2 n_104_1
theorem t_104_0 : e_Sn 104 0 (e_un n_104_0) := u_ldAT f_l2_eq (s_aload (i := .aload_n 2) (len := 1) hq_104 (by decide +kernel) rfl (.inr ⟨2, rfl, rfl, rfl⟩) : e_Sn 104 0 (o_load e_okR 2 1)) t_104_1
noncomputable def e_tb_104 : e_X := (e_br 7 (e_lf 0 (e_un n_104_0)) (e_br 19 (e_lf 7 (e_un n_104_7)) (e_lf 19 (e_un n_104_19))))
theorem e_tk_104 : e_Tb 104 e_tb_104 := (e_brT (e_lfT t_104_0) (e_brT (e_lfT t_104_7) (e_lfT t_104_19)))
theorem hq_105 : (e_ml[105]?).map (·.2.1) = some method_10_code := rfl
theorem ho_105 : (e_ml[105]?).map (·.1.cls) = some "PlateroomprinterLaw" := rfl
theorem hr_105 : (e_ml[105]?).map (·.2.2.2) = some (some .int) := rfl
noncomputable def n_105_16 : e_Y := u_retI
theorem t_105_16 : e_Sn 105 16 (e_un n_105_16) := u_retIT (s_iret hq_105 hr_105 (by decide +kernel) : e_Sn 105 16 (o_ret e_okI))
noncomputable def n_105_15 : e_Y := u_push (.inl 2147483648) n_105_16
theorem t_105_15 : e_Sn 105 15 (e_un n_105_15) := u_pushT (s_iconst (n := (0)) hq_105 (by decide +kernel) rfl ⟨by decide +kernel, by decide +kernel⟩ : e_Sn 105 15 (o_push (.inl 2147483648) 16)) t_105_16
noncomputable def n_105_14 : e_Y := u_retI
theorem t_105_14 : e_Sn 105 14 (e_un n_105_14) := u_retIT (s_iret hq_105 hr_105 (by decide +kernel) : e_Sn 105 14 (o_ret e_okI))
noncomputable def n_105_13 : e_Y := u_push (.inl 2147483649) n_105_14
theorem t_105_13 : e_Sn 105 13 (e_un n_105_13) := u_pushT (s_iconst (n := (1)) hq_105 (by decide +kernel) rfl ⟨by decide +kernel, by decide +kernel⟩ : e_Sn 105 13 (o_push (.inl 2147483649) 14)) t_105_14
noncomputable def n_105_12 : e_Y := u_st f_okA f_s3 n_105_13
theorem t_105_12 : e_Sn 105 12 (e_un n_105_12) := u_stAT (fun _ _ _ => f_s3_eq) (s_astore (i := .astore_n 3) (len := 1) hq_105 (by decide +kernel) rfl (.inr ⟨3, rfl, rfl, rfl⟩) : e_Sn 105 12 (o_store e_okR 3 13)) t_105_13
noncomputable def n_105_9 : e_Y := n_105_15
theorem t_105_9 : e_Sn 105 9 (e_un n_105_9) := u_gotoT (s_goto (off := (6)) hq_105 (by decide +kernel) rfl : e_Sn 105 9 (o_goto 15)) t_105_15
noncomputable def n_105_8 : e_Y := u_old (o_ast 2 e_okL 9) n_105_9
theorem t_105_8 : e_Sn 105 8 (e_un n_105_8) := u_oldT (s_last hq_105 (by decide +kernel) rfl : e_Sn 105 8 (o_ast 2 e_okL 9)) t_105_9 (e_cg_ast 2 e_okL)
noncomputable def n_105_7 : e_Y := u_old (o_i2l 8) n_105_8
theorem t_105_7 : e_Sn 105 7 (e_un n_105_7) := u_oldT (s_i2l hq_105 (by decide +kernel) rfl : e_Sn 105 7 (o_i2l 8)) t_105_8 e_congr_i2l
noncomputable def n_105_4 : e_Y := u_tab (o_callVX (e_s1 0 5 2) 2 7 [(0, 12)])
theorem t_105_4 : e_Sn 105 4 (e_un n_105_4) := u_tabT (s_callVX (ci := 0) (C := er_0) (T := et_0) (N := 17) (index := 40) hq_105 ho_105 hy_5 hp_5 hc_5 hi_5 hd_5 (List.mem_of_getElem? (i := 1629) (by decide +kernel)) hs_5 (List.mem_of_getElem? (i := 1484) (by decide +kernel)) rfl (by decide +kernel) rfl hy_105 hc_105 (e_hc1 rfl rfl (by decide) (List.mem_of_getElem? (i := 1564) (by decide +kernel)) (List.mem_of_getElem? (i := 1296) (by decide +kernel))) : e_Sn 105 4 (o_callVX (e_s1 0 5 2) 2 7 [(0, 12)]))
noncomputable def n_105_3 : e_Y := u_ld f_okI f_l1 n_105_4
theorem t_105_3 : e_Sn 105 3 (e_un n_105_3) := u_ldIT f_l1_eq (s_iload (i := .iload_n 1) (len := 1) hq_105 (by decide +kernel) rfl (.inr ⟨1, rfl, rfl, rfl⟩) : e_Sn 105 3 (o_load e_okI 1 4)) t_105_4
noncomputable def n_105_2 : e_Y := u_ld f_okA f_l0 n_105_3
theorem t_105_2 : e_Sn 105 2 (e_un n_105_2) := u_ldAT f_l0_eq (s_aload (i := .aload_n 0) (len := 1) hq_105 (by decide +kernel) rfl (.inr ⟨0, rfl, rfl, rfl⟩) : e_Sn 105 2 (o_load e_okR 0 3)) t_105_3
noncomputable def n_105_1 : e_Y := u_push (.inl 2147483648) n_105_2
theorem t_105_1 : e_Sn 105 1 (e_un n_105_1) := u_pushT (s_iconst (n := (0)) hq_105 (by decide +kernel) rfl ⟨by decide +kernel, by decide +kernel⟩ : e_Sn 105 1 (o_push (.inl 2147483648) 2)) t_105_2
noncomputable def n_105_0 : e_Y := u_ld f_okA f_l2 n_105_1
theorem t_105_0 : e_Sn 105 0 (e_un n_105_0) := u_ldAT f_l2_eq (s_aload (i := .aload_n 2) (len := 1) hq_105 (by decide +kernel) rfl (.inr ⟨2, rfl, rfl, rfl⟩) : e_Sn 105 0 (o_load e_okR 2 1)) t_105_1
noncomputable def e_tb_105 : e_X := (e_br 7 (e_lf 0 (e_un n_105_0)) (e_br 12 (e_lf 7 (e_un n_105_7)) (e_lf 12 (e_un n_105_12))))
theorem e_tk_105 : e_Tb 105 e_tb_105 := (e_brT (e_lfT t_105_0) (e_brT (e_lfT t_105_7) (e_lfT t_105_12)))
theorem hq_106 : (e_ml[106]?).map (·.2.1) = some method_25_code := rfl
theorem ho_106 : (e_ml[106]?).map (·.1.cls) = some "PlateroomprinterLaw" := rfl
theorem hr_106 : (e_ml[106]?).map (·.2.2.2) = some (some .int) := rfl
noncomputable def n_106_16 : e_Y := u_retI
theorem t_106_16 : e_Sn 106 16 (e_un n_106_16) := u_retIT (s_iret hq_106 hr_106 (by decide +kernel) : e_Sn 106 16 (o_ret e_okI))
noncomputable def n_106_15 : e_Y := u_push (.inl 2147483648) n_106_16
theorem t_106_15 : e_Sn 106 15 (e_un n_106_15) := u_pushT (s_iconst (n := (0)) hq_106 (by decide +kernel) rfl ⟨by decide +kernel, by decide +kernel⟩ : e_Sn 106 15 (o_push (.inl 2147483648) 16)) t_106_16
noncomputable def n_106_14 : e_Y := u_retI
theorem t_106_14 : e_Sn 106 14 (e_un n_106_14) := u_retIT (s_iret hq_106 hr_106 (by decide +kernel) : e_Sn 106 14 (o_ret e_okI))
noncomputable def n_106_13 : e_Y := u_push (.inl 2147483649) n_106_14
theorem t_106_13 : e_Sn 106 13 (e_un n_106_13) := u_pushT (s_iconst (n := (1)) hq_106 (by decide +kernel) rfl ⟨by decide +kernel, by decide +kernel⟩ : e_Sn 106 13 (o_push (.inl 2147483649) 14)) t_106_14
noncomputable def n_106_12 : e_Y := u_st f_okA f_s3 n_106_13
theorem t_106_12 : e_Sn 106 12 (e_un n_106_12) := u_stAT (fun _ _ _ => f_s3_eq) (s_astore (i := .astore_n 3) (len := 1) hq_106 (by decide +kernel) rfl (.inr ⟨3, rfl, rfl, rfl⟩) : e_Sn 106 12 (o_store e_okR 3 13)) t_106_13
noncomputable def n_106_9 : e_Y := n_106_15
theorem t_106_9 : e_Sn 106 9 (e_un n_106_9) := u_gotoT (s_goto (off := (6)) hq_106 (by decide +kernel) rfl : e_Sn 106 9 (o_goto 15)) t_106_15
noncomputable def n_106_8 : e_Y := u_old (o_ast 2 e_okL 9) n_106_9
theorem t_106_8 : e_Sn 106 8 (e_un n_106_8) := u_oldT (s_last hq_106 (by decide +kernel) rfl : e_Sn 106 8 (o_ast 2 e_okL 9)) t_106_9 (e_cg_ast 2 e_okL)
noncomputable def n_106_7 : e_Y := u_old (o_i2l 8) n_106_8
theorem t_106_7 : e_Sn 106 7 (e_un n_106_7) := u_oldT (s_i2l hq_106 (by decide +kernel) rfl : e_Sn 106 7 (o_i2l 8)) t_106_8 e_congr_i2l
noncomputable def n_106_4 : e_Y := u_tab (o_callVX (e_s1 0 6 2) 2 7 [(2, 12)])
theorem t_106_4 : e_Sn 106 4 (e_un n_106_4) := u_tabT (s_callVX (ci := 0) (C := er_0) (T := et_0) (N := 17) (index := 88) hq_106 ho_106 hy_6 hp_6 hc_6 hi_6 hd_6 (List.mem_of_getElem? (i := 1707) (by decide +kernel)) hs_6 (List.mem_of_getElem? (i := 1543) (by decide +kernel)) rfl (by decide +kernel) rfl hy_106 hc_106 (e_hc1 rfl rfl (by decide) (List.mem_of_getElem? (i := 1612) (by decide +kernel)) (List.mem_of_getElem? (i := 1404) (by decide +kernel))) : e_Sn 106 4 (o_callVX (e_s1 0 6 2) 2 7 [(2, 12)]))
noncomputable def n_106_3 : e_Y := u_ld f_okI f_l1 n_106_4
theorem t_106_3 : e_Sn 106 3 (e_un n_106_3) := u_ldIT f_l1_eq (s_iload (i := .iload_n 1) (len := 1) hq_106 (by decide +kernel) rfl (.inr ⟨1, rfl, rfl, rfl⟩) : e_Sn 106 3 (o_load e_okI 1 4)) t_106_4
noncomputable def n_106_2 : e_Y := u_ld f_okA f_l0 n_106_3
theorem t_106_2 : e_Sn 106 2 (e_un n_106_2) := u_ldAT f_l0_eq (s_aload (i := .aload_n 0) (len := 1) hq_106 (by decide +kernel) rfl (.inr ⟨0, rfl, rfl, rfl⟩) : e_Sn 106 2 (o_load e_okR 0 3)) t_106_3
noncomputable def n_106_1 : e_Y := u_push (.inl 2147483648) n_106_2
theorem t_106_1 : e_Sn 106 1 (e_un n_106_1) := u_pushT (s_iconst (n := (0)) hq_106 (by decide +kernel) rfl ⟨by decide +kernel, by decide +kernel⟩ : e_Sn 106 1 (o_push (.inl 2147483648) 2)) t_106_2
noncomputable def n_106_0 : e_Y := u_ld f_okA f_l2 n_106_1
theorem t_106_0 : e_Sn 106 0 (e_un n_106_0) := u_ldAT f_l2_eq (s_aload (i := .aload_n 2) (len := 1) hq_106 (by decide +kernel) rfl (.inr ⟨2, rfl, rfl, rfl⟩) : e_Sn 106 0 (o_load e_okR 2 1)) t_106_1
noncomputable def e_tb_106 : e_X := (e_br 7 (e_lf 0 (e_un n_106_0)) (e_br 12 (e_lf 7 (e_un n_106_7)) (e_lf 12 (e_un n_106_12))))
theorem e_tk_106 : e_Tb 106 e_tb_106 := (e_brT (e_lfT t_106_0) (e_brT (e_lfT t_106_7) (e_lfT t_106_12)))
theorem hq_107 : (e_ml[107]?).map (·.2.1) = some method_11_code := rfl
theorem ho_107 : (e_ml[107]?).map (·.1.cls) = some "PlateroomprinterLaw" := rfl
theorem hr_107 : (e_ml[107]?).map (·.2.2.2) = some (some .int) := rfl
noncomputable def n_107_16 : e_Y := u_retI
theorem t_107_16 : e_Sn 107 16 (e_un n_107_16) := u_retIT (s_iret hq_107 hr_107 (by decide +kernel) : e_Sn 107 16 (o_ret e_okI))
noncomputable def n_107_15 : e_Y := u_push (.inl 2147483648) n_107_16
theorem t_107_15 : e_Sn 107 15 (e_un n_107_15) := u_pushT (s_iconst (n := (0)) hq_107 (by decide +kernel) rfl ⟨by decide +kernel, by decide +kernel⟩ : e_Sn 107 15 (o_push (.inl 2147483648) 16)) t_107_16
noncomputable def n_107_14 : e_Y := u_retI
theorem t_107_14 : e_Sn 107 14 (e_un n_107_14) := u_retIT (s_iret hq_107 hr_107 (by decide +kernel) : e_Sn 107 14 (o_ret e_okI))
noncomputable def n_107_13 : e_Y := u_push (.inl 2147483649) n_107_14
theorem t_107_13 : e_Sn 107 13 (e_un n_107_13) := u_pushT (s_iconst (n := (1)) hq_107 (by decide +kernel) rfl ⟨by decide +kernel, by decide +kernel⟩ : e_Sn 107 13 (o_push (.inl 2147483649) 14)) t_107_14
noncomputable def n_107_12 : e_Y := u_st f_okA f_s3 n_107_13
theorem t_107_12 : e_Sn 107 12 (e_un n_107_12) := u_stAT (fun _ _ _ => f_s3_eq) (s_astore (i := .astore_n 3) (len := 1) hq_107 (by decide +kernel) rfl (.inr ⟨3, rfl, rfl, rfl⟩) : e_Sn 107 12 (o_store e_okR 3 13)) t_107_13
noncomputable def n_107_9 : e_Y := n_107_15
theorem t_107_9 : e_Sn 107 9 (e_un n_107_9) := u_gotoT (s_goto (off := (6)) hq_107 (by decide +kernel) rfl : e_Sn 107 9 (o_goto 15)) t_107_15
noncomputable def n_107_8 : e_Y := u_old (o_ast 2 e_okL 9) n_107_9
theorem t_107_8 : e_Sn 107 8 (e_un n_107_8) := u_oldT (s_last hq_107 (by decide +kernel) rfl : e_Sn 107 8 (o_ast 2 e_okL 9)) t_107_9 (e_cg_ast 2 e_okL)
noncomputable def n_107_7 : e_Y := u_old (o_i2l 8) n_107_8
theorem t_107_7 : e_Sn 107 7 (e_un n_107_7) := u_oldT (s_i2l hq_107 (by decide +kernel) rfl : e_Sn 107 7 (o_i2l 8)) t_107_8 e_congr_i2l
noncomputable def n_107_4 : e_Y := u_tab (o_callVX (e_s1 0 12 2) 2 7 [(2, 12)])
theorem t_107_4 : e_Sn 107 4 (e_un n_107_4) := u_tabT (s_callVX (ci := 0) (C := er_0) (T := et_0) (N := 17) (index := 43) hq_107 ho_107 hy_12 hp_12 hc_12 hi_12 hd_12 (List.mem_of_getElem? (i := 1633) (by decide +kernel)) hs_12 (List.mem_of_getElem? (i := 1488) (by decide +kernel)) rfl (by decide +kernel) rfl hy_107 hc_107 (e_hc1 rfl rfl (by decide) (List.mem_of_getElem? (i := 1612) (by decide +kernel)) (List.mem_of_getElem? (i := 1404) (by decide +kernel))) : e_Sn 107 4 (o_callVX (e_s1 0 12 2) 2 7 [(2, 12)]))
noncomputable def n_107_3 : e_Y := u_ld f_okI f_l1 n_107_4
theorem t_107_3 : e_Sn 107 3 (e_un n_107_3) := u_ldIT f_l1_eq (s_iload (i := .iload_n 1) (len := 1) hq_107 (by decide +kernel) rfl (.inr ⟨1, rfl, rfl, rfl⟩) : e_Sn 107 3 (o_load e_okI 1 4)) t_107_4
noncomputable def n_107_2 : e_Y := u_ld f_okA f_l0 n_107_3
theorem t_107_2 : e_Sn 107 2 (e_un n_107_2) := u_ldAT f_l0_eq (s_aload (i := .aload_n 0) (len := 1) hq_107 (by decide +kernel) rfl (.inr ⟨0, rfl, rfl, rfl⟩) : e_Sn 107 2 (o_load e_okR 0 3)) t_107_3
noncomputable def n_107_1 : e_Y := u_push (.inl 2147483648) n_107_2
theorem t_107_1 : e_Sn 107 1 (e_un n_107_1) := u_pushT (s_iconst (n := (0)) hq_107 (by decide +kernel) rfl ⟨by decide +kernel, by decide +kernel⟩ : e_Sn 107 1 (o_push (.inl 2147483648) 2)) t_107_2
noncomputable def n_107_0 : e_Y := u_ld f_okA f_l2 n_107_1
theorem t_107_0 : e_Sn 107 0 (e_un n_107_0) := u_ldAT f_l2_eq (s_aload (i := .aload_n 2) (len := 1) hq_107 (by decide +kernel) rfl (.inr ⟨2, rfl, rfl, rfl⟩) : e_Sn 107 0 (o_load e_okR 2 1)) t_107_1
noncomputable def e_tb_107 : e_X := (e_br 7 (e_lf 0 (e_un n_107_0)) (e_br 12 (e_lf 7 (e_un n_107_7)) (e_lf 12 (e_un n_107_12))))
theorem e_tk_107 : e_Tb 107 e_tb_107 := (e_brT (e_lfT t_107_0) (e_brT (e_lfT t_107_7) (e_lfT t_107_12)))
theorem hq_108 : (e_ml[108]?).map (·.2.1) = some method_23_code := rfl
theorem ho_108 : (e_ml[108]?).map (·.1.cls) = some "PlateroomprinterLaw" := rfl
theorem hr_108 : (e_ml[108]?).map (·.2.2.2) = some (some .int) := rfl
noncomputable def n_108_18 : e_Y := u_retI
theorem t_108_18 : e_Sn 108 18 (e_un n_108_18) := u_retIT (s_iret hq_108 hr_108 (by decide +kernel) : e_Sn 108 18 (o_ret e_okI))
noncomputable def n_108_17 : e_Y := u_push (.inl 2147483648) n_108_18
theorem t_108_17 : e_Sn 108 17 (e_un n_108_17) := u_pushT (s_iconst (n := (0)) hq_108 (by decide +kernel) rfl ⟨by decide +kernel, by decide +kernel⟩ : e_Sn 108 17 (o_push (.inl 2147483648) 18)) t_108_18
noncomputable def n_108_16 : e_Y := u_retI
theorem t_108_16 : e_Sn 108 16 (e_un n_108_16) := u_retIT (s_iret hq_108 hr_108 (by decide +kernel) : e_Sn 108 16 (o_ret e_okI))
noncomputable def n_108_15 : e_Y := u_push (.inl 2147483649) n_108_16
theorem t_108_15 : e_Sn 108 15 (e_un n_108_15) := u_pushT (s_iconst (n := (1)) hq_108 (by decide +kernel) rfl ⟨by decide +kernel, by decide +kernel⟩ : e_Sn 108 15 (o_push (.inl 2147483649) 16)) t_108_16
noncomputable def n_108_13 : e_Y := u_st f_okA f_s4 n_108_15
theorem t_108_13 : e_Sn 108 13 (e_un n_108_13) := u_stAT (fun _ _ _ => f_s4_eq) (s_astore (i := .astore 4) (len := 2) hq_108 (by decide +kernel) rfl (.inl ⟨rfl, rfl⟩) : e_Sn 108 13 (o_store e_okR 4 15)) t_108_15
noncomputable def n_108_10 : e_Y := n_108_17
theorem t_108_10 : e_Sn 108 10 (e_un n_108_10) := u_gotoT (s_goto (off := (7)) hq_108 (by decide +kernel) rfl : e_Sn 108 10 (o_goto 17)) t_108_17
noncomputable def n_108_9 : e_Y := u_old (o_ast 2 e_okL 10) n_108_10
theorem t_108_9 : e_Sn 108 9 (e_un n_108_9) := u_oldT (s_last hq_108 (by decide +kernel) rfl : e_Sn 108 9 (o_ast 2 e_okL 10)) t_108_10 (e_cg_ast 2 e_okL)
noncomputable def n_108_8 : e_Y := u_old (o_i2l 9) n_108_9
theorem t_108_8 : e_Sn 108 8 (e_un n_108_8) := u_oldT (s_i2l hq_108 (by decide +kernel) rfl : e_Sn 108 8 (o_i2l 9)) t_108_9 e_congr_i2l
noncomputable def n_108_5 : e_Y := u_tab (o_callVX (e_s1 0 13 3) 3 8 [(2, 13)])
theorem t_108_5 : e_Sn 108 5 (e_un n_108_5) := u_tabT (s_callVX (ci := 0) (C := er_0) (T := et_0) (N := 17) (index := 82) hq_108 ho_108 hy_13 hp_13 hc_13 hi_13 hd_13 (List.mem_of_getElem? (i := 1696) (by decide +kernel)) hs_13 (List.mem_of_getElem? (i := 1698) (by decide +kernel)) rfl (by decide +kernel) rfl hy_108 hc_108 (e_hc1 rfl rfl (by decide) (List.mem_of_getElem? (i := 1612) (by decide +kernel)) (List.mem_of_getElem? (i := 1404) (by decide +kernel))) : e_Sn 108 5 (o_callVX (e_s1 0 13 3) 3 8 [(2, 13)]))
noncomputable def n_108_4 : e_Y := u_ld f_okI f_l2 n_108_5
theorem t_108_4 : e_Sn 108 4 (e_un n_108_4) := u_ldIT f_l2_eq (s_iload (i := .iload_n 2) (len := 1) hq_108 (by decide +kernel) rfl (.inr ⟨2, rfl, rfl, rfl⟩) : e_Sn 108 4 (o_load e_okI 2 5)) t_108_5
noncomputable def n_108_3 : e_Y := u_ld f_okI f_l1 n_108_4
theorem t_108_3 : e_Sn 108 3 (e_un n_108_3) := u_ldIT f_l1_eq (s_iload (i := .iload_n 1) (len := 1) hq_108 (by decide +kernel) rfl (.inr ⟨1, rfl, rfl, rfl⟩) : e_Sn 108 3 (o_load e_okI 1 4)) t_108_4
noncomputable def n_108_2 : e_Y := u_ld f_okA f_l0 n_108_3
theorem t_108_2 : e_Sn 108 2 (e_un n_108_2) := u_ldAT f_l0_eq (s_aload (i := .aload_n 0) (len := 1) hq_108 (by decide +kernel) rfl (.inr ⟨0, rfl, rfl, rfl⟩) : e_Sn 108 2 (o_load e_okR 0 3)) t_108_3
noncomputable def n_108_1 : e_Y := u_push (.inl 2147483648) n_108_2
theorem t_108_1 : e_Sn 108 1 (e_un n_108_1) := u_pushT (s_iconst (n := (0)) hq_108 (by decide +kernel) rfl ⟨by decide +kernel, by decide +kernel⟩ : e_Sn 108 1 (o_push (.inl 2147483648) 2)) t_108_2
noncomputable def n_108_0 : e_Y := u_ld f_okA f_l3 n_108_1
theorem t_108_0 : e_Sn 108 0 (e_un n_108_0) := u_ldAT f_l3_eq (s_aload (i := .aload_n 3) (len := 1) hq_108 (by decide +kernel) rfl (.inr ⟨3, rfl, rfl, rfl⟩) : e_Sn 108 0 (o_load e_okR 3 1)) t_108_1
noncomputable def e_tb_108 : e_X := (e_br 8 (e_lf 0 (e_un n_108_0)) (e_br 13 (e_lf 8 (e_un n_108_8)) (e_lf 13 (e_un n_108_13))))
theorem e_tk_108 : e_Tb 108 e_tb_108 := (e_brT (e_lfT t_108_0) (e_brT (e_lfT t_108_8) (e_lfT t_108_13)))
theorem hq_109 : (e_ml[109]?).map (·.2.1) = some method_18_code := rfl
theorem ho_109 : (e_ml[109]?).map (·.1.cls) = some "PlateroomprinterLaw" := rfl
theorem hr_109 : (e_ml[109]?).map (·.2.2.2) = some (some .int) := rfl
noncomputable def n_109_16 : e_Y := u_retI
theorem t_109_16 : e_Sn 109 16 (e_un n_109_16) := u_retIT (s_iret hq_109 hr_109 (by decide +kernel) : e_Sn 109 16 (o_ret e_okI))
noncomputable def n_109_15 : e_Y := u_push (.inl 2147483648) n_109_16
theorem t_109_15 : e_Sn 109 15 (e_un n_109_15) := u_pushT (s_iconst (n := (0)) hq_109 (by decide +kernel) rfl ⟨by decide +kernel, by decide +kernel⟩ : e_Sn 109 15 (o_push (.inl 2147483648) 16)) t_109_16
noncomputable def n_109_14 : e_Y := u_retI
theorem t_109_14 : e_Sn 109 14 (e_un n_109_14) := u_retIT (s_iret hq_109 hr_109 (by decide +kernel) : e_Sn 109 14 (o_ret e_okI))
noncomputable def n_109_13 : e_Y := u_push (.inl 2147483649) n_109_14
theorem t_109_13 : e_Sn 109 13 (e_un n_109_13) := u_pushT (s_iconst (n := (1)) hq_109 (by decide +kernel) rfl ⟨by decide +kernel, by decide +kernel⟩ : e_Sn 109 13 (o_push (.inl 2147483649) 14)) t_109_14
noncomputable def n_109_12 : e_Y := u_st f_okA f_s3 n_109_13
theorem t_109_12 : e_Sn 109 12 (e_un n_109_12) := u_stAT (fun _ _ _ => f_s3_eq) (s_astore (i := .astore_n 3) (len := 1) hq_109 (by decide +kernel) rfl (.inr ⟨3, rfl, rfl, rfl⟩) : e_Sn 109 12 (o_store e_okR 3 13)) t_109_13
noncomputable def n_109_9 : e_Y := n_109_15
theorem t_109_9 : e_Sn 109 9 (e_un n_109_9) := u_gotoT (s_goto (off := (6)) hq_109 (by decide +kernel) rfl : e_Sn 109 9 (o_goto 15)) t_109_15
noncomputable def n_109_8 : e_Y := u_old (o_ast 2 e_okL 9) n_109_9
theorem t_109_8 : e_Sn 109 8 (e_un n_109_8) := u_oldT (s_last hq_109 (by decide +kernel) rfl : e_Sn 109 8 (o_ast 2 e_okL 9)) t_109_9 (e_cg_ast 2 e_okL)
noncomputable def n_109_7 : e_Y := u_old (o_i2l 8) n_109_8
theorem t_109_7 : e_Sn 109 7 (e_un n_109_7) := u_oldT (s_i2l hq_109 (by decide +kernel) rfl : e_Sn 109 7 (o_i2l 8)) t_109_8 e_congr_i2l
noncomputable def n_109_4 : e_Y := u_tab (o_callVX (e_s1 0 14 2) 2 7 [(0, 12)])
theorem t_109_4 : e_Sn 109 4 (e_un n_109_4) := u_tabT (s_callVX (ci := 0) (C := er_0) (T := et_0) (N := 17) (index := 66) hq_109 ho_109 hy_14 hp_14 hc_14 hi_14 hd_14 (List.mem_of_getElem? (i := 1664) (by decide +kernel)) hs_14 (List.mem_of_getElem? (i := 1289) (by decide +kernel)) rfl (by decide +kernel) rfl hy_109 hc_109 (e_hc1 rfl rfl (by decide) (List.mem_of_getElem? (i := 1564) (by decide +kernel)) (List.mem_of_getElem? (i := 1296) (by decide +kernel))) : e_Sn 109 4 (o_callVX (e_s1 0 14 2) 2 7 [(0, 12)]))
noncomputable def n_109_3 : e_Y := u_ld f_okI f_l1 n_109_4
theorem t_109_3 : e_Sn 109 3 (e_un n_109_3) := u_ldIT f_l1_eq (s_iload (i := .iload_n 1) (len := 1) hq_109 (by decide +kernel) rfl (.inr ⟨1, rfl, rfl, rfl⟩) : e_Sn 109 3 (o_load e_okI 1 4)) t_109_4
noncomputable def n_109_2 : e_Y := u_ld f_okA f_l0 n_109_3
theorem t_109_2 : e_Sn 109 2 (e_un n_109_2) := u_ldAT f_l0_eq (s_aload (i := .aload_n 0) (len := 1) hq_109 (by decide +kernel) rfl (.inr ⟨0, rfl, rfl, rfl⟩) : e_Sn 109 2 (o_load e_okR 0 3)) t_109_3
noncomputable def n_109_1 : e_Y := u_push (.inl 2147483648) n_109_2
theorem t_109_1 : e_Sn 109 1 (e_un n_109_1) := u_pushT (s_iconst (n := (0)) hq_109 (by decide +kernel) rfl ⟨by decide +kernel, by decide +kernel⟩ : e_Sn 109 1 (o_push (.inl 2147483648) 2)) t_109_2
noncomputable def n_109_0 : e_Y := u_ld f_okA f_l2 n_109_1
theorem t_109_0 : e_Sn 109 0 (e_un n_109_0) := u_ldAT f_l2_eq (s_aload (i := .aload_n 2) (len := 1) hq_109 (by decide +kernel) rfl (.inr ⟨2, rfl, rfl, rfl⟩) : e_Sn 109 0 (o_load e_okR 2 1)) t_109_1
noncomputable def e_tb_109 : e_X := (e_br 7 (e_lf 0 (e_un n_109_0)) (e_br 12 (e_lf 7 (e_un n_109_7)) (e_lf 12 (e_un n_109_12))))
theorem e_tk_109 : e_Tb 109 e_tb_109 := (e_brT (e_lfT t_109_0) (e_brT (e_lfT t_109_7) (e_lfT t_109_12)))
theorem hq_110 : (e_ml[110]?).map (·.2.1) = some method_5_code := rfl
theorem ho_110 : (e_ml[110]?).map (·.1.cls) = some "PlateroomprinterLaw" := rfl
theorem hr_110 : (e_ml[110]?).map (·.2.2.2) = some (some .int) := rfl
noncomputable def n_110_13 : e_Y := u_retI
theorem t_110_13 : e_Sn 110 13 (e_un n_110_13) := u_retIT (s_iret hq_110 hr_110 (by decide +kernel) : e_Sn 110 13 (o_ret e_okI))
noncomputable def n_110_12 : e_Y := u_push (.inl 2147483649) n_110_13
theorem t_110_12 : e_Sn 110 12 (e_un n_110_12) := u_pushT (s_iconst (n := (1)) hq_110 (by decide +kernel) rfl ⟨by decide +kernel, by decide +kernel⟩ : e_Sn 110 12 (o_push (.inl 2147483649) 13)) t_110_13
noncomputable def n_110_11 : e_Y := u_st f_okA f_s2 n_110_12
theorem t_110_11 : e_Sn 110 11 (e_un n_110_11) := u_stAT (fun _ _ _ => f_s2_eq) (s_astore (i := .astore_n 2) (len := 1) hq_110 (by decide +kernel) rfl (.inr ⟨2, rfl, rfl, rfl⟩) : e_Sn 110 11 (o_store e_okR 2 12)) t_110_12
noncomputable def n_110_3 : e_Y := u_tab (o_callVX (e_s1 0 15 2) 1 6 [(1, 11)])
theorem t_110_3 : e_Sn 110 3 (e_un n_110_3) := u_tabT (s_callVX (ci := 0) (C := er_0) (T := et_0) (N := 17) (index := 21) hq_110 ho_110 hy_15 hp_15 hc_15 hi_15 hd_15 (List.mem_of_getElem? (i := 1604) (by decide +kernel)) hs_15 (List.mem_of_getElem? (i := 1606) (by decide +kernel)) rfl (by decide +kernel) rfl hy_110 hc_110 (e_hc1 rfl rfl (by decide) (List.mem_of_getElem? (i := 1565) (by decide +kernel)) (List.mem_of_getElem? (i := 1576) (by decide +kernel))) : e_Sn 110 3 (o_callVX (e_s1 0 15 2) 1 6 [(1, 11)]))
noncomputable def n_110_2 : e_Y := u_ld f_okA f_l0 n_110_3
theorem t_110_2 : e_Sn 110 2 (e_un n_110_2) := u_ldAT f_l0_eq (s_aload (i := .aload_n 0) (len := 1) hq_110 (by decide +kernel) rfl (.inr ⟨0, rfl, rfl, rfl⟩) : e_Sn 110 2 (o_load e_okR 0 3)) t_110_3
noncomputable def n_110_1 : e_Y := u_push (.inl 2147483648) n_110_2
theorem t_110_1 : e_Sn 110 1 (e_un n_110_1) := u_pushT (s_iconst (n := (0)) hq_110 (by decide +kernel) rfl ⟨by decide +kernel, by decide +kernel⟩ : e_Sn 110 1 (o_push (.inl 2147483648) 2)) t_110_2
noncomputable def n_110_0 : e_Y := u_ld f_okA f_l1 n_110_1
theorem t_110_0 : e_Sn 110 0 (e_un n_110_0) := u_ldAT f_l1_eq (s_aload (i := .aload_n 1) (len := 1) hq_110 (by decide +kernel) rfl (.inr ⟨1, rfl, rfl, rfl⟩) : e_Sn 110 0 (o_load e_okR 1 1)) t_110_1
noncomputable def e_tb_110 : e_X := (e_br 11 (e_lf 0 (e_un n_110_0)) (e_lf 11 (e_un n_110_11)))
theorem e_tk_110 : e_Tb 110 e_tb_110 := (e_brT (e_lfT t_110_0) (e_lfT t_110_11))
theorem hq_111 : (e_ml[111]?).map (·.2.1) = some method_7_code := rfl
theorem ho_111 : (e_ml[111]?).map (·.1.cls) = some "PlateroomprinterLaw" := rfl
theorem hr_111 : (e_ml[111]?).map (·.2.2.2) = some (some .int) := rfl
noncomputable def n_111_16 : e_Y := u_retI
theorem t_111_16 : e_Sn 111 16 (e_un n_111_16) := u_retIT (s_iret hq_111 hr_111 (by decide +kernel) : e_Sn 111 16 (o_ret e_okI))
noncomputable def n_111_15 : e_Y := u_push (.inl 2147483648) n_111_16
theorem t_111_15 : e_Sn 111 15 (e_un n_111_15) := u_pushT (s_iconst (n := (0)) hq_111 (by decide +kernel) rfl ⟨by decide +kernel, by decide +kernel⟩ : e_Sn 111 15 (o_push (.inl 2147483648) 16)) t_111_16
noncomputable def n_111_14 : e_Y := u_retI
theorem t_111_14 : e_Sn 111 14 (e_un n_111_14) := u_retIT (s_iret hq_111 hr_111 (by decide +kernel) : e_Sn 111 14 (o_ret e_okI))
noncomputable def n_111_13 : e_Y := u_push (.inl 2147483649) n_111_14
theorem t_111_13 : e_Sn 111 13 (e_un n_111_13) := u_pushT (s_iconst (n := (1)) hq_111 (by decide +kernel) rfl ⟨by decide +kernel, by decide +kernel⟩ : e_Sn 111 13 (o_push (.inl 2147483649) 14)) t_111_14
noncomputable def n_111_12 : e_Y := u_st f_okA f_s3 n_111_13
theorem t_111_12 : e_Sn 111 12 (e_un n_111_12) := u_stAT (fun _ _ _ => f_s3_eq) (s_astore (i := .astore_n 3) (len := 1) hq_111 (by decide +kernel) rfl (.inr ⟨3, rfl, rfl, rfl⟩) : e_Sn 111 12 (o_store e_okR 3 13)) t_111_13
noncomputable def n_111_9 : e_Y := n_111_15
theorem t_111_9 : e_Sn 111 9 (e_un n_111_9) := u_gotoT (s_goto (off := (6)) hq_111 (by decide +kernel) rfl : e_Sn 111 9 (o_goto 15)) t_111_15
noncomputable def n_111_8 : e_Y := u_old (o_ast 2 e_okL 9) n_111_9
theorem t_111_8 : e_Sn 111 8 (e_un n_111_8) := u_oldT (s_last hq_111 (by decide +kernel) rfl : e_Sn 111 8 (o_ast 2 e_okL 9)) t_111_9 (e_cg_ast 2 e_okL)
noncomputable def n_111_7 : e_Y := u_old (o_i2l 8) n_111_8
theorem t_111_7 : e_Sn 111 7 (e_un n_111_7) := u_oldT (s_i2l hq_111 (by decide +kernel) rfl : e_Sn 111 7 (o_i2l 8)) t_111_8 e_congr_i2l
noncomputable def n_111_4 : e_Y := u_tab (o_callVX (e_s1 0 16 2) 2 7 [(0, 12)])
theorem t_111_4 : e_Sn 111 4 (e_un n_111_4) := u_tabT (s_callVX (ci := 0) (C := er_0) (T := et_0) (N := 17) (index := 30) hq_111 ho_111 hy_16 hp_16 hc_16 hi_16 hd_16 (List.mem_of_getElem? (i := 1617) (by decide +kernel)) hs_16 (List.mem_of_getElem? (i := 1461) (by decide +kernel)) rfl (by decide +kernel) rfl hy_111 hc_111 (e_hc1 rfl rfl (by decide) (List.mem_of_getElem? (i := 1564) (by decide +kernel)) (List.mem_of_getElem? (i := 1296) (by decide +kernel))) : e_Sn 111 4 (o_callVX (e_s1 0 16 2) 2 7 [(0, 12)]))
noncomputable def n_111_3 : e_Y := u_ld f_okI f_l1 n_111_4
theorem t_111_3 : e_Sn 111 3 (e_un n_111_3) := u_ldIT f_l1_eq (s_iload (i := .iload_n 1) (len := 1) hq_111 (by decide +kernel) rfl (.inr ⟨1, rfl, rfl, rfl⟩) : e_Sn 111 3 (o_load e_okI 1 4)) t_111_4
noncomputable def n_111_2 : e_Y := u_ld f_okA f_l0 n_111_3
theorem t_111_2 : e_Sn 111 2 (e_un n_111_2) := u_ldAT f_l0_eq (s_aload (i := .aload_n 0) (len := 1) hq_111 (by decide +kernel) rfl (.inr ⟨0, rfl, rfl, rfl⟩) : e_Sn 111 2 (o_load e_okR 0 3)) t_111_3
noncomputable def n_111_1 : e_Y := u_push (.inl 2147483648) n_111_2
theorem t_111_1 : e_Sn 111 1 (e_un n_111_1) := u_pushT (s_iconst (n := (0)) hq_111 (by decide +kernel) rfl ⟨by decide +kernel, by decide +kernel⟩ : e_Sn 111 1 (o_push (.inl 2147483648) 2)) t_111_2
noncomputable def n_111_0 : e_Y := u_ld f_okA f_l2 n_111_1
theorem t_111_0 : e_Sn 111 0 (e_un n_111_0) := u_ldAT f_l2_eq (s_aload (i := .aload_n 2) (len := 1) hq_111 (by decide +kernel) rfl (.inr ⟨2, rfl, rfl, rfl⟩) : e_Sn 111 0 (o_load e_okR 2 1)) t_111_1
noncomputable def e_tb_111 : e_X := (e_br 7 (e_lf 0 (e_un n_111_0)) (e_br 12 (e_lf 7 (e_un n_111_7)) (e_lf 12 (e_un n_111_12))))
theorem e_tk_111 : e_Tb 111 e_tb_111 := (e_brT (e_lfT t_111_0) (e_brT (e_lfT t_111_7) (e_lfT t_111_12)))
theorem hq_112 : (e_ml[112]?).map (·.2.1) = some method_21_code := rfl
theorem ho_112 : (e_ml[112]?).map (·.1.cls) = some "PlateroomprinterLaw" := rfl
theorem hr_112 : (e_ml[112]?).map (·.2.2.2) = some (some .int) := rfl
noncomputable def n_112_16 : e_Y := u_retI
theorem t_112_16 : e_Sn 112 16 (e_un n_112_16) := u_retIT (s_iret hq_112 hr_112 (by decide +kernel) : e_Sn 112 16 (o_ret e_okI))
noncomputable def n_112_15 : e_Y := u_push (.inl 2147483649) n_112_16
theorem t_112_15 : e_Sn 112 15 (e_un n_112_15) := u_pushT (s_iconst (n := (1)) hq_112 (by decide +kernel) rfl ⟨by decide +kernel, by decide +kernel⟩ : e_Sn 112 15 (o_push (.inl 2147483649) 16)) t_112_16
noncomputable def n_112_13 : e_Y := u_st f_okA f_s4 n_112_15
theorem t_112_13 : e_Sn 112 13 (e_un n_112_13) := u_stAT (fun _ _ _ => f_s4_eq) (s_astore (i := .astore 4) (len := 2) hq_112 (by decide +kernel) rfl (.inl ⟨rfl, rfl⟩) : e_Sn 112 13 (o_store e_okR 4 15)) t_112_15
noncomputable def n_112_5 : e_Y := u_tab (o_callVX (e_s1 0 17 3) 3 8 [(2, 13), (0, 17)])
theorem t_112_5 : e_Sn 112 5 (e_un n_112_5) := u_tabT (s_callVX (ci := 0) (C := er_0) (T := et_0) (N := 17) (index := 76) hq_112 ho_112 hy_17 hp_17 hc_17 hi_17 hd_17 (List.mem_of_getElem? (i := 1688) (by decide +kernel)) hs_17 (List.mem_of_getElem? (i := 1532) (by decide +kernel)) rfl (by decide +kernel) rfl hy_112 hc_112 (e_hc2 rfl rfl (by decide) (List.mem_of_getElem? (i := 1612) (by decide +kernel)) (List.mem_of_getElem? (i := 1404) (by decide +kernel)) rfl rfl (by decide) (List.mem_of_getElem? (i := 1564) (by decide +kernel)) (List.mem_of_getElem? (i := 1296) (by decide +kernel)) (by simp [e_nc])) : e_Sn 112 5 (o_callVX (e_s1 0 17 3) 3 8 [(2, 13), (0, 17)]))
noncomputable def n_112_4 : e_Y := u_ld f_okI f_l2 n_112_5
theorem t_112_4 : e_Sn 112 4 (e_un n_112_4) := u_ldIT f_l2_eq (s_iload (i := .iload_n 2) (len := 1) hq_112 (by decide +kernel) rfl (.inr ⟨2, rfl, rfl, rfl⟩) : e_Sn 112 4 (o_load e_okI 2 5)) t_112_5
noncomputable def n_112_3 : e_Y := u_ld f_okI f_l1 n_112_4
theorem t_112_3 : e_Sn 112 3 (e_un n_112_3) := u_ldIT f_l1_eq (s_iload (i := .iload_n 1) (len := 1) hq_112 (by decide +kernel) rfl (.inr ⟨1, rfl, rfl, rfl⟩) : e_Sn 112 3 (o_load e_okI 1 4)) t_112_4
noncomputable def n_112_2 : e_Y := u_ld f_okA f_l0 n_112_3
theorem t_112_2 : e_Sn 112 2 (e_un n_112_2) := u_ldAT f_l0_eq (s_aload (i := .aload_n 0) (len := 1) hq_112 (by decide +kernel) rfl (.inr ⟨0, rfl, rfl, rfl⟩) : e_Sn 112 2 (o_load e_okR 0 3)) t_112_3
noncomputable def n_112_1 : e_Y := u_push (.inl 2147483648) n_112_2
theorem t_112_1 : e_Sn 112 1 (e_un n_112_1) := u_pushT (s_iconst (n := (0)) hq_112 (by decide +kernel) rfl ⟨by decide +kernel, by decide +kernel⟩ : e_Sn 112 1 (o_push (.inl 2147483648) 2)) t_112_2
noncomputable def n_112_0 : e_Y := u_ld f_okA f_l3 n_112_1
theorem t_112_0 : e_Sn 112 0 (e_un n_112_0) := u_ldAT f_l3_eq (s_aload (i := .aload_n 3) (len := 1) hq_112 (by decide +kernel) rfl (.inr ⟨3, rfl, rfl, rfl⟩) : e_Sn 112 0 (o_load e_okR 3 1)) t_112_1
noncomputable def e_tb_112 : e_X := (e_br 13 (e_lf 0 (e_un n_112_0)) (e_lf 13 (e_un n_112_13)))
theorem e_tk_112 : e_Tb 112 e_tb_112 := (e_brT (e_lfT t_112_0) (e_lfT t_112_13))
theorem hq_113 : (e_ml[113]?).map (·.2.1) = some method_16_code := rfl
theorem ho_113 : (e_ml[113]?).map (·.1.cls) = some "PlateroomprinterLaw" := rfl
theorem hr_113 : (e_ml[113]?).map (·.2.2.2) = some (some .int) := rfl
noncomputable def n_113_22 : e_Y := u_retI
theorem t_113_22 : e_Sn 113 22 (e_un n_113_22) := u_retIT (s_iret hq_113 hr_113 (by decide +kernel) : e_Sn 113 22 (o_ret e_okI))
noncomputable def n_113_21 : e_Y := u_push (.inl 2147483648) n_113_22
theorem t_113_21 : e_Sn 113 21 (e_un n_113_21) := u_pushT (s_iconst (n := (0)) hq_113 (by decide +kernel) rfl ⟨by decide +kernel, by decide +kernel⟩ : e_Sn 113 21 (o_push (.inl 2147483648) 22)) t_113_22
noncomputable def n_113_20 : e_Y := u_retI
theorem t_113_20 : e_Sn 113 20 (e_un n_113_20) := u_retIT (s_iret hq_113 hr_113 (by decide +kernel) : e_Sn 113 20 (o_ret e_okI))
noncomputable def n_113_19 : e_Y := u_push (.inl 2147483650) n_113_20
theorem t_113_19 : e_Sn 113 19 (e_un n_113_19) := u_pushT (s_iconst (n := (2)) hq_113 (by decide +kernel) rfl ⟨by decide +kernel, by decide +kernel⟩ : e_Sn 113 19 (o_push (.inl 2147483650) 20)) t_113_20
noncomputable def n_113_17 : e_Y := u_st f_okA f_s4 n_113_19
theorem t_113_17 : e_Sn 113 17 (e_un n_113_17) := u_stAT (fun _ _ _ => f_s4_eq) (s_astore (i := .astore 4) (len := 2) hq_113 (by decide +kernel) rfl (.inl ⟨rfl, rfl⟩) : e_Sn 113 17 (o_store e_okR 4 19)) t_113_19
noncomputable def n_113_16 : e_Y := u_retI
theorem t_113_16 : e_Sn 113 16 (e_un n_113_16) := u_retIT (s_iret hq_113 hr_113 (by decide +kernel) : e_Sn 113 16 (o_ret e_okI))
noncomputable def n_113_15 : e_Y := u_push (.inl 2147483649) n_113_16
theorem t_113_15 : e_Sn 113 15 (e_un n_113_15) := u_pushT (s_iconst (n := (1)) hq_113 (by decide +kernel) rfl ⟨by decide +kernel, by decide +kernel⟩ : e_Sn 113 15 (o_push (.inl 2147483649) 16)) t_113_16
noncomputable def n_113_13 : e_Y := u_st f_okA f_s4 n_113_15
theorem t_113_13 : e_Sn 113 13 (e_un n_113_13) := u_stAT (fun _ _ _ => f_s4_eq) (s_astore (i := .astore 4) (len := 2) hq_113 (by decide +kernel) rfl (.inl ⟨rfl, rfl⟩) : e_Sn 113 13 (o_store e_okR 4 15)) t_113_15
noncomputable def n_113_10 : e_Y := n_113_21
theorem t_113_10 : e_Sn 113 10 (e_un n_113_10) := u_gotoT (s_goto (off := (11)) hq_113 (by decide +kernel) rfl : e_Sn 113 10 (o_goto 21)) t_113_21
noncomputable def n_113_9 : e_Y := u_old (o_ast 2 e_okL 10) n_113_10
theorem t_113_9 : e_Sn 113 9 (e_un n_113_9) := u_oldT (s_last hq_113 (by decide +kernel) rfl : e_Sn 113 9 (o_ast 2 e_okL 10)) t_113_10 (e_cg_ast 2 e_okL)
noncomputable def n_113_8 : e_Y := u_old (o_i2l 9) n_113_9
theorem t_113_8 : e_Sn 113 8 (e_un n_113_8) := u_oldT (s_i2l hq_113 (by decide +kernel) rfl : e_Sn 113 8 (o_i2l 9)) t_113_9 e_congr_i2l
noncomputable def n_113_5 : e_Y := u_tab (o_callVX (e_s1 0 20 3) 3 8 [(2, 13), (0, 17)])
theorem t_113_5 : e_Sn 113 5 (e_un n_113_5) := u_tabT (s_callVX (ci := 0) (C := er_0) (T := et_0) (N := 17) (index := 59) hq_113 ho_113 hy_20 hp_20 hc_20 hi_20 hd_20 (List.mem_of_getElem? (i := 1653) (by decide +kernel)) hs_20 (List.mem_of_getElem? (i := 1522) (by decide +kernel)) rfl (by decide +kernel) rfl hy_113 hc_113 (e_hc2 rfl rfl (by decide) (List.mem_of_getElem? (i := 1612) (by decide +kernel)) (List.mem_of_getElem? (i := 1404) (by decide +kernel)) rfl rfl (by decide) (List.mem_of_getElem? (i := 1564) (by decide +kernel)) (List.mem_of_getElem? (i := 1296) (by decide +kernel)) (by simp [e_nc])) : e_Sn 113 5 (o_callVX (e_s1 0 20 3) 3 8 [(2, 13), (0, 17)]))
noncomputable def n_113_4 : e_Y := u_ld f_okI f_l2 n_113_5
theorem t_113_4 : e_Sn 113 4 (e_un n_113_4) := u_ldIT f_l2_eq (s_iload (i := .iload_n 2) (len := 1) hq_113 (by decide +kernel) rfl (.inr ⟨2, rfl, rfl, rfl⟩) : e_Sn 113 4 (o_load e_okI 2 5)) t_113_5
noncomputable def n_113_3 : e_Y := u_ld f_okI f_l1 n_113_4
theorem t_113_3 : e_Sn 113 3 (e_un n_113_3) := u_ldIT f_l1_eq (s_iload (i := .iload_n 1) (len := 1) hq_113 (by decide +kernel) rfl (.inr ⟨1, rfl, rfl, rfl⟩) : e_Sn 113 3 (o_load e_okI 1 4)) t_113_4
noncomputable def n_113_2 : e_Y := u_ld f_okA f_l0 n_113_3
theorem t_113_2 : e_Sn 113 2 (e_un n_113_2) := u_ldAT f_l0_eq (s_aload (i := .aload_n 0) (len := 1) hq_113 (by decide +kernel) rfl (.inr ⟨0, rfl, rfl, rfl⟩) : e_Sn 113 2 (o_load e_okR 0 3)) t_113_3
noncomputable def n_113_1 : e_Y := u_push (.inl 2147483648) n_113_2
theorem t_113_1 : e_Sn 113 1 (e_un n_113_1) := u_pushT (s_iconst (n := (0)) hq_113 (by decide +kernel) rfl ⟨by decide +kernel, by decide +kernel⟩ : e_Sn 113 1 (o_push (.inl 2147483648) 2)) t_113_2
noncomputable def n_113_0 : e_Y := u_ld f_okA f_l3 n_113_1
theorem t_113_0 : e_Sn 113 0 (e_un n_113_0) := u_ldAT f_l3_eq (s_aload (i := .aload_n 3) (len := 1) hq_113 (by decide +kernel) rfl (.inr ⟨3, rfl, rfl, rfl⟩) : e_Sn 113 0 (o_load e_okR 3 1)) t_113_1
noncomputable def e_tb_113 : e_X := (e_br 13 (e_br 8 (e_lf 0 (e_un n_113_0)) (e_lf 8 (e_un n_113_8))) (e_br 17 (e_lf 13 (e_un n_113_13)) (e_lf 17 (e_un n_113_17))))
theorem e_tk_113 : e_Tb 113 e_tb_113 := (e_brT (e_brT (e_lfT t_113_0) (e_lfT t_113_8)) (e_brT (e_lfT t_113_13) (e_lfT t_113_17)))
theorem hq_114 : (e_ml[114]?).map (·.2.1) = some method_20_code := rfl
theorem ho_114 : (e_ml[114]?).map (·.1.cls) = some "PlateroomprinterLaw" := rfl
theorem hr_114 : (e_ml[114]?).map (·.2.2.2) = some (some .int) := rfl
noncomputable def n_114_20 : e_Y := u_retI
theorem t_114_20 : e_Sn 114 20 (e_un n_114_20) := u_retIT (s_iret hq_114 hr_114 (by decide +kernel) : e_Sn 114 20 (o_ret e_okI))
noncomputable def n_114_19 : e_Y := u_push (.inl 2147483649) n_114_20
theorem t_114_19 : e_Sn 114 19 (e_un n_114_19) := u_pushT (s_iconst (n := (1)) hq_114 (by decide +kernel) rfl ⟨by decide +kernel, by decide +kernel⟩ : e_Sn 114 19 (o_push (.inl 2147483649) 20)) t_114_20
noncomputable def n_114_17 : e_Y := u_st f_okA f_s6 n_114_19
theorem t_114_17 : e_Sn 114 17 (e_un n_114_17) := u_stAT (fun _ _ _ => f_s6_eq) (s_astore (i := .astore 6) (len := 2) hq_114 (by decide +kernel) rfl (.inl ⟨rfl, rfl⟩) : e_Sn 114 17 (o_store e_okR 6 19)) t_114_19
noncomputable def n_114_9 : e_Y := u_tab (o_callVX (e_s1 0 22 7) 5 12 [(2, 17), (0, 21)])
theorem t_114_9 : e_Sn 114 9 (e_un n_114_9) := u_tabT (s_callVX (ci := 0) (C := er_0) (T := et_0) (N := 17) (index := 72) hq_114 ho_114 hy_22 hp_22 hc_22 hi_22 hd_22 (List.mem_of_getElem? (i := 1676) (by decide +kernel)) hs_22 (List.mem_of_getElem? (i := 1678) (by decide +kernel)) rfl (by decide +kernel) rfl hy_114 hc_114 (e_hc2 rfl rfl (by decide) (List.mem_of_getElem? (i := 1612) (by decide +kernel)) (List.mem_of_getElem? (i := 1404) (by decide +kernel)) rfl rfl (by decide) (List.mem_of_getElem? (i := 1564) (by decide +kernel)) (List.mem_of_getElem? (i := 1296) (by decide +kernel)) (by simp [e_nc])) : e_Sn 114 9 (o_callVX (e_s1 0 22 7) 5 12 [(2, 17), (0, 21)]))
noncomputable def n_114_7 : e_Y := u_ld f_okI f_l4 n_114_9
theorem t_114_7 : e_Sn 114 7 (e_un n_114_7) := u_ldIT f_l4_eq (s_iload (i := .iload 4) (len := 2) hq_114 (by decide +kernel) rfl (.inl ⟨rfl, rfl⟩) : e_Sn 114 7 (o_load e_okI 4 9)) t_114_9
noncomputable def n_114_6 : e_Y := u_ld f_okI f_l3 n_114_7
theorem t_114_6 : e_Sn 114 6 (e_un n_114_6) := u_ldIT f_l3_eq (s_iload (i := .iload_n 3) (len := 1) hq_114 (by decide +kernel) rfl (.inr ⟨3, rfl, rfl, rfl⟩) : e_Sn 114 6 (o_load e_okI 3 7)) t_114_7
noncomputable def n_114_5 : e_Y := u_ld f_okI f_l2 n_114_6
theorem t_114_5 : e_Sn 114 5 (e_un n_114_5) := u_ldIT f_l2_eq (s_iload (i := .iload_n 2) (len := 1) hq_114 (by decide +kernel) rfl (.inr ⟨2, rfl, rfl, rfl⟩) : e_Sn 114 5 (o_load e_okI 2 6)) t_114_6
noncomputable def n_114_4 : e_Y := u_ld f_okI f_l1 n_114_5
theorem t_114_4 : e_Sn 114 4 (e_un n_114_4) := u_ldIT f_l1_eq (s_iload (i := .iload_n 1) (len := 1) hq_114 (by decide +kernel) rfl (.inr ⟨1, rfl, rfl, rfl⟩) : e_Sn 114 4 (o_load e_okI 1 5)) t_114_5
noncomputable def n_114_3 : e_Y := u_ld f_okA f_l0 n_114_4
theorem t_114_3 : e_Sn 114 3 (e_un n_114_3) := u_ldAT f_l0_eq (s_aload (i := .aload_n 0) (len := 1) hq_114 (by decide +kernel) rfl (.inr ⟨0, rfl, rfl, rfl⟩) : e_Sn 114 3 (o_load e_okR 0 4)) t_114_4
noncomputable def n_114_2 : e_Y := u_push (.inl 2147483648) n_114_3
theorem t_114_2 : e_Sn 114 2 (e_un n_114_2) := u_pushT (s_iconst (n := (0)) hq_114 (by decide +kernel) rfl ⟨by decide +kernel, by decide +kernel⟩ : e_Sn 114 2 (o_push (.inl 2147483648) 3)) t_114_3
noncomputable def n_114_0 : e_Y := u_ld f_okA f_l5 n_114_2
theorem t_114_0 : e_Sn 114 0 (e_un n_114_0) := u_ldAT f_l5_eq (s_aload (i := .aload 5) (len := 2) hq_114 (by decide +kernel) rfl (.inl ⟨rfl, rfl⟩) : e_Sn 114 0 (o_load e_okR 5 2)) t_114_2
noncomputable def e_tb_114 : e_X := (e_br 17 (e_lf 0 (e_un n_114_0)) (e_lf 17 (e_un n_114_17)))
theorem e_tk_114 : e_Tb 114 e_tb_114 := (e_brT (e_lfT t_114_0) (e_lfT t_114_17))
theorem hq_115 : (e_ml[115]?).map (·.2.1) = some method_17_code := rfl
theorem ho_115 : (e_ml[115]?).map (·.1.cls) = some "PlateroomprinterLaw" := rfl
theorem hr_115 : (e_ml[115]?).map (·.2.2.2) = some (some .int) := rfl
noncomputable def n_115_31 : e_Y := u_retI
theorem t_115_31 : e_Sn 115 31 (e_un n_115_31) := u_retIT (s_iret hq_115 hr_115 (by decide +kernel) : e_Sn 115 31 (o_ret e_okI))
noncomputable def n_115_30 : e_Y := u_push (.inl 2147483648) n_115_31
theorem t_115_30 : e_Sn 115 30 (e_un n_115_30) := u_pushT (s_iconst (n := (0)) hq_115 (by decide +kernel) rfl ⟨by decide +kernel, by decide +kernel⟩ : e_Sn 115 30 (o_push (.inl 2147483648) 31)) t_115_31
noncomputable def n_115_29 : e_Y := u_retI
theorem t_115_29 : e_Sn 115 29 (e_un n_115_29) := u_retIT (s_iret hq_115 hr_115 (by decide +kernel) : e_Sn 115 29 (o_ret e_okI))
noncomputable def n_115_28 : e_Y := u_push (.inl 2147483650) n_115_29
theorem t_115_28 : e_Sn 115 28 (e_un n_115_28) := u_pushT (s_iconst (n := (2)) hq_115 (by decide +kernel) rfl ⟨by decide +kernel, by decide +kernel⟩ : e_Sn 115 28 (o_push (.inl 2147483650) 29)) t_115_29
noncomputable def n_115_26 : e_Y := u_st f_okA f_s5 n_115_28
theorem t_115_26 : e_Sn 115 26 (e_un n_115_26) := u_stAT (fun _ _ _ => f_s5_eq) (s_astore (i := .astore 5) (len := 2) hq_115 (by decide +kernel) rfl (.inl ⟨rfl, rfl⟩) : e_Sn 115 26 (o_store e_okR 5 28)) t_115_28
noncomputable def n_115_25 : e_Y := u_retI
theorem t_115_25 : e_Sn 115 25 (e_un n_115_25) := u_retIT (s_iret hq_115 hr_115 (by decide +kernel) : e_Sn 115 25 (o_ret e_okI))
noncomputable def n_115_24 : e_Y := u_push (.inl 2147483649) n_115_25
theorem t_115_24 : e_Sn 115 24 (e_un n_115_24) := u_pushT (s_iconst (n := (1)) hq_115 (by decide +kernel) rfl ⟨by decide +kernel, by decide +kernel⟩ : e_Sn 115 24 (o_push (.inl 2147483649) 25)) t_115_25
noncomputable def n_115_22 : e_Y := u_st f_okA f_s5 n_115_24
theorem t_115_22 : e_Sn 115 22 (e_un n_115_22) := u_stAT (fun _ _ _ => f_s5_eq) (s_astore (i := .astore 5) (len := 2) hq_115 (by decide +kernel) rfl (.inl ⟨rfl, rfl⟩) : e_Sn 115 22 (o_store e_okR 5 24)) t_115_24
noncomputable def n_115_19 : e_Y := n_115_30
theorem t_115_19 : e_Sn 115 19 (e_un n_115_19) := u_gotoT (s_goto (off := (11)) hq_115 (by decide +kernel) rfl : e_Sn 115 19 (o_goto 30)) t_115_30
noncomputable def n_115_18 : e_Y := u_old (o_ast 2 e_okL 19) n_115_19
theorem t_115_18 : e_Sn 115 18 (e_un n_115_18) := u_oldT (s_last hq_115 (by decide +kernel) rfl : e_Sn 115 18 (o_ast 2 e_okL 19)) t_115_19 (e_cg_ast 2 e_okL)
noncomputable def n_115_17 : e_Y := u_push (e_L 9223372036854775808) n_115_18
theorem t_115_17 : e_Sn 115 17 (e_un n_115_17) := u_pushT (s_lconst (n := 0) hq_115 (by decide +kernel) rfl ⟨by decide +kernel, by decide +kernel⟩ : e_Sn 115 17 (o_push (e_L 9223372036854775808) 18)) t_115_18
noncomputable def n_115_10 : e_Y := u_if y_ne0 (u_old2 (o_ifeq 17 13) 17 n_115_17 (u_at 13)) n_115_17 (u_at 13)
theorem t_115_10 : e_Sn 115 10 (e_un n_115_10) := u_ifeqT rfl (s_ifeq (off := (7)) hq_115 (by decide +kernel) rfl rfl : e_Sn 115 10 (o_ifeq 17 13)) t_115_17 u_atT
noncomputable def n_115_7 : e_Y := u_tab (o_callVX (e_s1 0 24 4) 4 10 [(2, 22), (0, 26)])
theorem t_115_7 : e_Sn 115 7 (e_un n_115_7) := u_tabT (s_callVX (ci := 0) (C := er_0) (T := et_0) (N := 17) (index := 62) hq_115 ho_115 hy_24 hp_24 hc_24 hi_24 hd_24 (List.mem_of_getElem? (i := 1657) (by decide +kernel)) hs_24 (List.mem_of_getElem? (i := 1659) (by decide +kernel)) rfl (by decide +kernel) rfl hy_115 hc_115 (e_hc2 rfl rfl (by decide) (List.mem_of_getElem? (i := 1612) (by decide +kernel)) (List.mem_of_getElem? (i := 1404) (by decide +kernel)) rfl rfl (by decide) (List.mem_of_getElem? (i := 1564) (by decide +kernel)) (List.mem_of_getElem? (i := 1296) (by decide +kernel)) (by simp [e_nc])) : e_Sn 115 7 (o_callVX (e_s1 0 24 4) 4 10 [(2, 22), (0, 26)]))
noncomputable def n_115_6 : e_Y := u_ld f_okI f_l3 n_115_7
theorem t_115_6 : e_Sn 115 6 (e_un n_115_6) := u_ldIT f_l3_eq (s_iload (i := .iload_n 3) (len := 1) hq_115 (by decide +kernel) rfl (.inr ⟨3, rfl, rfl, rfl⟩) : e_Sn 115 6 (o_load e_okI 3 7)) t_115_7
noncomputable def n_115_5 : e_Y := u_ld f_okI f_l2 n_115_6
theorem t_115_5 : e_Sn 115 5 (e_un n_115_5) := u_ldIT f_l2_eq (s_iload (i := .iload_n 2) (len := 1) hq_115 (by decide +kernel) rfl (.inr ⟨2, rfl, rfl, rfl⟩) : e_Sn 115 5 (o_load e_okI 2 6)) t_115_6
noncomputable def n_115_4 : e_Y := u_ld f_okI f_l1 n_115_5
theorem t_115_4 : e_Sn 115 4 (e_un n_115_4) := u_ldIT f_l1_eq (s_iload (i := .iload_n 1) (len := 1) hq_115 (by decide +kernel) rfl (.inr ⟨1, rfl, rfl, rfl⟩) : e_Sn 115 4 (o_load e_okI 1 5)) t_115_5
noncomputable def n_115_3 : e_Y := u_ld f_okA f_l0 n_115_4
theorem t_115_3 : e_Sn 115 3 (e_un n_115_3) := u_ldAT f_l0_eq (s_aload (i := .aload_n 0) (len := 1) hq_115 (by decide +kernel) rfl (.inr ⟨0, rfl, rfl, rfl⟩) : e_Sn 115 3 (o_load e_okR 0 4)) t_115_4
noncomputable def n_115_2 : e_Y := u_push (.inl 2147483648) n_115_3
theorem t_115_2 : e_Sn 115 2 (e_un n_115_2) := u_pushT (s_iconst (n := (0)) hq_115 (by decide +kernel) rfl ⟨by decide +kernel, by decide +kernel⟩ : e_Sn 115 2 (o_push (.inl 2147483648) 3)) t_115_3
noncomputable def n_115_0 : e_Y := u_ld f_okA f_l4 n_115_2
theorem t_115_0 : e_Sn 115 0 (e_un n_115_0) := u_ldAT f_l4_eq (s_aload (i := .aload 4) (len := 2) hq_115 (by decide +kernel) rfl (.inl ⟨rfl, rfl⟩) : e_Sn 115 0 (o_load e_okR 4 2)) t_115_2
noncomputable def e_tb_115 : e_X := (e_br 22 (e_br 10 (e_lf 0 (e_un n_115_0)) (e_lf 10 (e_un n_115_10))) (e_br 26 (e_lf 22 (e_un n_115_22)) (e_lf 26 (e_un n_115_26))))
theorem e_tk_115 : e_Tb 115 e_tb_115 := (e_brT (e_brT (e_lfT t_115_0) (e_lfT t_115_10)) (e_brT (e_lfT t_115_22) (e_lfT t_115_26)))
theorem hq_116 : (e_ml[116]?).map (·.2.1) = some method_8_code := rfl
theorem ho_116 : (e_ml[116]?).map (·.1.cls) = some "PlateroomprinterLaw" := rfl
theorem hr_116 : (e_ml[116]?).map (·.2.2.2) = some (some .int) := rfl
noncomputable def n_116_16 : e_Y := u_retI
theorem t_116_16 : e_Sn 116 16 (e_un n_116_16) := u_retIT (s_iret hq_116 hr_116 (by decide +kernel) : e_Sn 116 16 (o_ret e_okI))
noncomputable def n_116_15 : e_Y := u_push (.inl 2147483649) n_116_16
theorem t_116_15 : e_Sn 116 15 (e_un n_116_15) := u_pushT (s_iconst (n := (1)) hq_116 (by decide +kernel) rfl ⟨by decide +kernel, by decide +kernel⟩ : e_Sn 116 15 (o_push (.inl 2147483649) 16)) t_116_16
noncomputable def n_116_13 : e_Y := u_st f_okA f_s4 n_116_15
theorem t_116_13 : e_Sn 116 13 (e_un n_116_13) := u_stAT (fun _ _ _ => f_s4_eq) (s_astore (i := .astore 4) (len := 2) hq_116 (by decide +kernel) rfl (.inl ⟨rfl, rfl⟩) : e_Sn 116 13 (o_store e_okR 4 15)) t_116_15
noncomputable def n_116_5 : e_Y := u_tab (o_callVX (e_s1 0 31 4) 3 8 [(2, 13), (0, 17)])
theorem t_116_5 : e_Sn 116 5 (e_un n_116_5) := u_tabT (s_callVX (ci := 0) (C := er_0) (T := et_0) (N := 17) (index := 34) hq_116 ho_116 hy_31 hp_31 hc_31 hi_31 hd_31 (List.mem_of_getElem? (i := 1621) (by decide +kernel)) hs_31 (List.mem_of_getElem? (i := 1467) (by decide +kernel)) rfl (by decide +kernel) rfl hy_116 hc_116 (e_hc2 rfl rfl (by decide) (List.mem_of_getElem? (i := 1612) (by decide +kernel)) (List.mem_of_getElem? (i := 1404) (by decide +kernel)) rfl rfl (by decide) (List.mem_of_getElem? (i := 1564) (by decide +kernel)) (List.mem_of_getElem? (i := 1296) (by decide +kernel)) (by simp [e_nc])) : e_Sn 116 5 (o_callVX (e_s1 0 31 4) 3 8 [(2, 13), (0, 17)]))
noncomputable def n_116_4 : e_Y := u_ld f_okI f_l2 n_116_5
theorem t_116_4 : e_Sn 116 4 (e_un n_116_4) := u_ldIT f_l2_eq (s_iload (i := .iload_n 2) (len := 1) hq_116 (by decide +kernel) rfl (.inr ⟨2, rfl, rfl, rfl⟩) : e_Sn 116 4 (o_load e_okI 2 5)) t_116_5
noncomputable def n_116_3 : e_Y := u_ld f_okI f_l1 n_116_4
theorem t_116_3 : e_Sn 116 3 (e_un n_116_3) := u_ldIT f_l1_eq (s_iload (i := .iload_n 1) (len := 1) hq_116 (by decide +kernel) rfl (.inr ⟨1, rfl, rfl, rfl⟩) : e_Sn 116 3 (o_load e_okI 1 4)) t_116_4
noncomputable def n_116_2 : e_Y := u_ld f_okA f_l0 n_116_3
theorem t_116_2 : e_Sn 116 2 (e_un n_116_2) := u_ldAT f_l0_eq (s_aload (i := .aload_n 0) (len := 1) hq_116 (by decide +kernel) rfl (.inr ⟨0, rfl, rfl, rfl⟩) : e_Sn 116 2 (o_load e_okR 0 3)) t_116_3
noncomputable def n_116_1 : e_Y := u_push (.inl 2147483648) n_116_2
theorem t_116_1 : e_Sn 116 1 (e_un n_116_1) := u_pushT (s_iconst (n := (0)) hq_116 (by decide +kernel) rfl ⟨by decide +kernel, by decide +kernel⟩ : e_Sn 116 1 (o_push (.inl 2147483648) 2)) t_116_2
noncomputable def n_116_0 : e_Y := u_ld f_okA f_l3 n_116_1
theorem t_116_0 : e_Sn 116 0 (e_un n_116_0) := u_ldAT f_l3_eq (s_aload (i := .aload_n 3) (len := 1) hq_116 (by decide +kernel) rfl (.inr ⟨3, rfl, rfl, rfl⟩) : e_Sn 116 0 (o_load e_okR 3 1)) t_116_1
noncomputable def e_tb_116 : e_X := (e_br 13 (e_lf 0 (e_un n_116_0)) (e_lf 13 (e_un n_116_13)))
theorem e_tk_116 : e_Tb 116 e_tb_116 := (e_brT (e_lfT t_116_0) (e_lfT t_116_13))
theorem hq_117 : (e_ml[117]?).map (·.2.1) = some method_22_code := rfl
theorem ho_117 : (e_ml[117]?).map (·.1.cls) = some "PlateroomprinterLaw" := rfl
theorem hr_117 : (e_ml[117]?).map (·.2.2.2) = some (some .int) := rfl
noncomputable def n_117_18 : e_Y := u_retI
theorem t_117_18 : e_Sn 117 18 (e_un n_117_18) := u_retIT (s_iret hq_117 hr_117 (by decide +kernel) : e_Sn 117 18 (o_ret e_okI))
noncomputable def n_117_17 : e_Y := u_push (.inl 2147483648) n_117_18
theorem t_117_17 : e_Sn 117 17 (e_un n_117_17) := u_pushT (s_iconst (n := (0)) hq_117 (by decide +kernel) rfl ⟨by decide +kernel, by decide +kernel⟩ : e_Sn 117 17 (o_push (.inl 2147483648) 18)) t_117_18
noncomputable def n_117_16 : e_Y := u_retI
theorem t_117_16 : e_Sn 117 16 (e_un n_117_16) := u_retIT (s_iret hq_117 hr_117 (by decide +kernel) : e_Sn 117 16 (o_ret e_okI))
noncomputable def n_117_15 : e_Y := u_push (.inl 2147483649) n_117_16
theorem t_117_15 : e_Sn 117 15 (e_un n_117_15) := u_pushT (s_iconst (n := (1)) hq_117 (by decide +kernel) rfl ⟨by decide +kernel, by decide +kernel⟩ : e_Sn 117 15 (o_push (.inl 2147483649) 16)) t_117_16
noncomputable def n_117_13 : e_Y := u_st f_okA f_s4 n_117_15
theorem t_117_13 : e_Sn 117 13 (e_un n_117_13) := u_stAT (fun _ _ _ => f_s4_eq) (s_astore (i := .astore 4) (len := 2) hq_117 (by decide +kernel) rfl (.inl ⟨rfl, rfl⟩) : e_Sn 117 13 (o_store e_okR 4 15)) t_117_15
noncomputable def n_117_10 : e_Y := n_117_17
theorem t_117_10 : e_Sn 117 10 (e_un n_117_10) := u_gotoT (s_goto (off := (7)) hq_117 (by decide +kernel) rfl : e_Sn 117 10 (o_goto 17)) t_117_17
noncomputable def n_117_9 : e_Y := u_old (o_ast 2 e_okL 10) n_117_10
theorem t_117_9 : e_Sn 117 9 (e_un n_117_9) := u_oldT (s_last hq_117 (by decide +kernel) rfl : e_Sn 117 9 (o_ast 2 e_okL 10)) t_117_10 (e_cg_ast 2 e_okL)
noncomputable def n_117_8 : e_Y := u_old (o_i2l 9) n_117_9
theorem t_117_8 : e_Sn 117 8 (e_un n_117_8) := u_oldT (s_i2l hq_117 (by decide +kernel) rfl : e_Sn 117 8 (o_i2l 9)) t_117_9 e_congr_i2l
noncomputable def n_117_5 : e_Y := u_tab (o_callVX (e_s1 0 34 4) 3 8 [(2, 13)])
theorem t_117_5 : e_Sn 117 5 (e_un n_117_5) := u_tabT (s_callVX (ci := 0) (C := er_0) (T := et_0) (N := 17) (index := 79) hq_117 ho_117 hy_34 hp_34 hc_34 hi_34 hd_34 (List.mem_of_getElem? (i := 1692) (by decide +kernel)) hs_34 (List.mem_of_getElem? (i := 1400) (by decide +kernel)) rfl (by decide +kernel) rfl hy_117 hc_117 (e_hc1 rfl rfl (by decide) (List.mem_of_getElem? (i := 1612) (by decide +kernel)) (List.mem_of_getElem? (i := 1404) (by decide +kernel))) : e_Sn 117 5 (o_callVX (e_s1 0 34 4) 3 8 [(2, 13)]))
noncomputable def n_117_4 : e_Y := u_ld f_okI f_l2 n_117_5
theorem t_117_4 : e_Sn 117 4 (e_un n_117_4) := u_ldIT f_l2_eq (s_iload (i := .iload_n 2) (len := 1) hq_117 (by decide +kernel) rfl (.inr ⟨2, rfl, rfl, rfl⟩) : e_Sn 117 4 (o_load e_okI 2 5)) t_117_5
noncomputable def n_117_3 : e_Y := u_ld f_okI f_l1 n_117_4
theorem t_117_3 : e_Sn 117 3 (e_un n_117_3) := u_ldIT f_l1_eq (s_iload (i := .iload_n 1) (len := 1) hq_117 (by decide +kernel) rfl (.inr ⟨1, rfl, rfl, rfl⟩) : e_Sn 117 3 (o_load e_okI 1 4)) t_117_4
noncomputable def n_117_2 : e_Y := u_ld f_okA f_l0 n_117_3
theorem t_117_2 : e_Sn 117 2 (e_un n_117_2) := u_ldAT f_l0_eq (s_aload (i := .aload_n 0) (len := 1) hq_117 (by decide +kernel) rfl (.inr ⟨0, rfl, rfl, rfl⟩) : e_Sn 117 2 (o_load e_okR 0 3)) t_117_3
noncomputable def n_117_1 : e_Y := u_push (.inl 2147483648) n_117_2
theorem t_117_1 : e_Sn 117 1 (e_un n_117_1) := u_pushT (s_iconst (n := (0)) hq_117 (by decide +kernel) rfl ⟨by decide +kernel, by decide +kernel⟩ : e_Sn 117 1 (o_push (.inl 2147483648) 2)) t_117_2
noncomputable def n_117_0 : e_Y := u_ld f_okA f_l3 n_117_1
theorem t_117_0 : e_Sn 117 0 (e_un n_117_0) := u_ldAT f_l3_eq (s_aload (i := .aload_n 3) (len := 1) hq_117 (by decide +kernel) rfl (.inr ⟨3, rfl, rfl, rfl⟩) : e_Sn 117 0 (o_load e_okR 3 1)) t_117_1
noncomputable def e_tb_117 : e_X := (e_br 8 (e_lf 0 (e_un n_117_0)) (e_br 13 (e_lf 8 (e_un n_117_8)) (e_lf 13 (e_un n_117_13))))
theorem e_tk_117 : e_Tb 117 e_tb_117 := (e_brT (e_lfT t_117_0) (e_brT (e_lfT t_117_8) (e_lfT t_117_13)))
theorem hq_118 : (e_ml[118]?).map (·.2.1) = some method_30_code := rfl
theorem ho_118 : (e_ml[118]?).map (·.1.cls) = some "PlateroomprinterLaw" := rfl
theorem hr_118 : (e_ml[118]?).map (·.2.2.2) = some (some .int) := rfl
noncomputable def n_118_18 : e_Y := u_retI
theorem t_118_18 : e_Sn 118 18 (e_un n_118_18) := u_retIT (s_iret hq_118 hr_118 (by decide +kernel) : e_Sn 118 18 (o_ret e_okI))
noncomputable def n_118_17 : e_Y := u_push (.inl 2147483648) n_118_18
theorem t_118_17 : e_Sn 118 17 (e_un n_118_17) := u_pushT (s_iconst (n := (0)) hq_118 (by decide +kernel) rfl ⟨by decide +kernel, by decide +kernel⟩ : e_Sn 118 17 (o_push (.inl 2147483648) 18)) t_118_18
noncomputable def n_118_16 : e_Y := u_retI
theorem t_118_16 : e_Sn 118 16 (e_un n_118_16) := u_retIT (s_iret hq_118 hr_118 (by decide +kernel) : e_Sn 118 16 (o_ret e_okI))
noncomputable def n_118_15 : e_Y := u_push (.inl 2147483649) n_118_16
theorem t_118_15 : e_Sn 118 15 (e_un n_118_15) := u_pushT (s_iconst (n := (1)) hq_118 (by decide +kernel) rfl ⟨by decide +kernel, by decide +kernel⟩ : e_Sn 118 15 (o_push (.inl 2147483649) 16)) t_118_16
noncomputable def n_118_13 : e_Y := u_st f_okA f_s4 n_118_15
theorem t_118_13 : e_Sn 118 13 (e_un n_118_13) := u_stAT (fun _ _ _ => f_s4_eq) (s_astore (i := .astore 4) (len := 2) hq_118 (by decide +kernel) rfl (.inl ⟨rfl, rfl⟩) : e_Sn 118 13 (o_store e_okR 4 15)) t_118_15
noncomputable def n_118_10 : e_Y := n_118_17
theorem t_118_10 : e_Sn 118 10 (e_un n_118_10) := u_gotoT (s_goto (off := (7)) hq_118 (by decide +kernel) rfl : e_Sn 118 10 (o_goto 17)) t_118_17
noncomputable def n_118_9 : e_Y := u_old (o_ast 2 e_okL 10) n_118_10
theorem t_118_9 : e_Sn 118 9 (e_un n_118_9) := u_oldT (s_last hq_118 (by decide +kernel) rfl : e_Sn 118 9 (o_ast 2 e_okL 10)) t_118_10 (e_cg_ast 2 e_okL)
noncomputable def n_118_8 : e_Y := u_old (o_i2l 9) n_118_9
theorem t_118_8 : e_Sn 118 8 (e_un n_118_8) := u_oldT (s_i2l hq_118 (by decide +kernel) rfl : e_Sn 118 8 (o_i2l 9)) t_118_9 e_congr_i2l
noncomputable def n_118_5 : e_Y := u_tab (o_callVX (e_s1 0 35 3) 3 8 [(2, 13)])
theorem t_118_5 : e_Sn 118 5 (e_un n_118_5) := u_tabT (s_callVX (ci := 0) (C := er_0) (T := et_0) (N := 17) (index := 104) hq_118 ho_118 hy_35 hp_35 hc_35 hi_35 hd_35 (List.mem_of_getElem? (i := 1734) (by decide +kernel)) hs_35 (List.mem_of_getElem? (i := 1736) (by decide +kernel)) rfl (by decide +kernel) rfl hy_118 hc_118 (e_hc1 rfl rfl (by decide) (List.mem_of_getElem? (i := 1612) (by decide +kernel)) (List.mem_of_getElem? (i := 1404) (by decide +kernel))) : e_Sn 118 5 (o_callVX (e_s1 0 35 3) 3 8 [(2, 13)]))
noncomputable def n_118_4 : e_Y := u_ld f_okI f_l2 n_118_5
theorem t_118_4 : e_Sn 118 4 (e_un n_118_4) := u_ldIT f_l2_eq (s_iload (i := .iload_n 2) (len := 1) hq_118 (by decide +kernel) rfl (.inr ⟨2, rfl, rfl, rfl⟩) : e_Sn 118 4 (o_load e_okI 2 5)) t_118_5
noncomputable def n_118_3 : e_Y := u_ld f_okI f_l1 n_118_4
theorem t_118_3 : e_Sn 118 3 (e_un n_118_3) := u_ldIT f_l1_eq (s_iload (i := .iload_n 1) (len := 1) hq_118 (by decide +kernel) rfl (.inr ⟨1, rfl, rfl, rfl⟩) : e_Sn 118 3 (o_load e_okI 1 4)) t_118_4
noncomputable def n_118_2 : e_Y := u_ld f_okA f_l0 n_118_3
theorem t_118_2 : e_Sn 118 2 (e_un n_118_2) := u_ldAT f_l0_eq (s_aload (i := .aload_n 0) (len := 1) hq_118 (by decide +kernel) rfl (.inr ⟨0, rfl, rfl, rfl⟩) : e_Sn 118 2 (o_load e_okR 0 3)) t_118_3
noncomputable def n_118_1 : e_Y := u_push (.inl 2147483648) n_118_2
theorem t_118_1 : e_Sn 118 1 (e_un n_118_1) := u_pushT (s_iconst (n := (0)) hq_118 (by decide +kernel) rfl ⟨by decide +kernel, by decide +kernel⟩ : e_Sn 118 1 (o_push (.inl 2147483648) 2)) t_118_2
noncomputable def n_118_0 : e_Y := u_ld f_okA f_l3 n_118_1
theorem t_118_0 : e_Sn 118 0 (e_un n_118_0) := u_ldAT f_l3_eq (s_aload (i := .aload_n 3) (len := 1) hq_118 (by decide +kernel) rfl (.inr ⟨3, rfl, rfl, rfl⟩) : e_Sn 118 0 (o_load e_okR 3 1)) t_118_1
noncomputable def e_tb_118 : e_X := (e_br 8 (e_lf 0 (e_un n_118_0)) (e_br 13 (e_lf 8 (e_un n_118_8)) (e_lf 13 (e_un n_118_13))))
theorem e_tk_118 : e_Tb 118 e_tb_118 := (e_brT (e_lfT t_118_0) (e_brT (e_lfT t_118_8) (e_lfT t_118_13)))
theorem hq_119 : (e_ml[119]?).map (·.2.1) = some method_13_code := rfl
theorem ho_119 : (e_ml[119]?).map (·.1.cls) = some "PlateroomprinterLaw" := rfl
theorem hr_119 : (e_ml[119]?).map (·.2.2.2) = some (some .int) := rfl
noncomputable def n_119_22 : e_Y := u_retI
theorem t_119_22 : e_Sn 119 22 (e_un n_119_22) := u_retIT (s_iret hq_119 hr_119 (by decide +kernel) : e_Sn 119 22 (o_ret e_okI))
noncomputable def n_119_21 : e_Y := u_push (.inl 2147483648) n_119_22
theorem t_119_21 : e_Sn 119 21 (e_un n_119_21) := u_pushT (s_iconst (n := (0)) hq_119 (by decide +kernel) rfl ⟨by decide +kernel, by decide +kernel⟩ : e_Sn 119 21 (o_push (.inl 2147483648) 22)) t_119_22
noncomputable def n_119_20 : e_Y := u_retI
theorem t_119_20 : e_Sn 119 20 (e_un n_119_20) := u_retIT (s_iret hq_119 hr_119 (by decide +kernel) : e_Sn 119 20 (o_ret e_okI))
noncomputable def n_119_19 : e_Y := u_push (.inl 2147483650) n_119_20
theorem t_119_19 : e_Sn 119 19 (e_un n_119_19) := u_pushT (s_iconst (n := (2)) hq_119 (by decide +kernel) rfl ⟨by decide +kernel, by decide +kernel⟩ : e_Sn 119 19 (o_push (.inl 2147483650) 20)) t_119_20
noncomputable def n_119_17 : e_Y := u_st f_okA f_s4 n_119_19
theorem t_119_17 : e_Sn 119 17 (e_un n_119_17) := u_stAT (fun _ _ _ => f_s4_eq) (s_astore (i := .astore 4) (len := 2) hq_119 (by decide +kernel) rfl (.inl ⟨rfl, rfl⟩) : e_Sn 119 17 (o_store e_okR 4 19)) t_119_19
noncomputable def n_119_16 : e_Y := u_retI
theorem t_119_16 : e_Sn 119 16 (e_un n_119_16) := u_retIT (s_iret hq_119 hr_119 (by decide +kernel) : e_Sn 119 16 (o_ret e_okI))
noncomputable def n_119_15 : e_Y := u_push (.inl 2147483649) n_119_16
theorem t_119_15 : e_Sn 119 15 (e_un n_119_15) := u_pushT (s_iconst (n := (1)) hq_119 (by decide +kernel) rfl ⟨by decide +kernel, by decide +kernel⟩ : e_Sn 119 15 (o_push (.inl 2147483649) 16)) t_119_16
noncomputable def n_119_13 : e_Y := u_st f_okA f_s4 n_119_15
theorem t_119_13 : e_Sn 119 13 (e_un n_119_13) := u_stAT (fun _ _ _ => f_s4_eq) (s_astore (i := .astore 4) (len := 2) hq_119 (by decide +kernel) rfl (.inl ⟨rfl, rfl⟩) : e_Sn 119 13 (o_store e_okR 4 15)) t_119_15
noncomputable def n_119_10 : e_Y := n_119_21
theorem t_119_10 : e_Sn 119 10 (e_un n_119_10) := u_gotoT (s_goto (off := (11)) hq_119 (by decide +kernel) rfl : e_Sn 119 10 (o_goto 21)) t_119_21
noncomputable def n_119_9 : e_Y := u_old (o_ast 2 e_okL 10) n_119_10
theorem t_119_9 : e_Sn 119 9 (e_un n_119_9) := u_oldT (s_last hq_119 (by decide +kernel) rfl : e_Sn 119 9 (o_ast 2 e_okL 10)) t_119_10 (e_cg_ast 2 e_okL)
noncomputable def n_119_8 : e_Y := u_old (o_i2l 9) n_119_9
theorem t_119_8 : e_Sn 119 8 (e_un n_119_8) := u_oldT (s_i2l hq_119 (by decide +kernel) rfl : e_Sn 119 8 (o_i2l 9)) t_119_9 e_congr_i2l
noncomputable def n_119_5 : e_Y := u_tab (o_callVX (e_s1 0 37 3) 3 8 [(2, 13), (0, 17)])
theorem t_119_5 : e_Sn 119 5 (e_un n_119_5) := u_tabT (s_callVX (ci := 0) (C := er_0) (T := et_0) (N := 17) (index := 49) hq_119 ho_119 hy_37 hp_37 hc_37 hi_37 hd_37 (List.mem_of_getElem? (i := 1641) (by decide +kernel)) hs_37 (List.mem_of_getElem? (i := 1502) (by decide +kernel)) rfl (by decide +kernel) rfl hy_119 hc_119 (e_hc2 rfl rfl (by decide) (List.mem_of_getElem? (i := 1612) (by decide +kernel)) (List.mem_of_getElem? (i := 1404) (by decide +kernel)) rfl rfl (by decide) (List.mem_of_getElem? (i := 1564) (by decide +kernel)) (List.mem_of_getElem? (i := 1296) (by decide +kernel)) (by simp [e_nc])) : e_Sn 119 5 (o_callVX (e_s1 0 37 3) 3 8 [(2, 13), (0, 17)]))
noncomputable def n_119_4 : e_Y := u_ld f_okI f_l2 n_119_5
theorem t_119_4 : e_Sn 119 4 (e_un n_119_4) := u_ldIT f_l2_eq (s_iload (i := .iload_n 2) (len := 1) hq_119 (by decide +kernel) rfl (.inr ⟨2, rfl, rfl, rfl⟩) : e_Sn 119 4 (o_load e_okI 2 5)) t_119_5
noncomputable def n_119_3 : e_Y := u_ld f_okI f_l1 n_119_4
theorem t_119_3 : e_Sn 119 3 (e_un n_119_3) := u_ldIT f_l1_eq (s_iload (i := .iload_n 1) (len := 1) hq_119 (by decide +kernel) rfl (.inr ⟨1, rfl, rfl, rfl⟩) : e_Sn 119 3 (o_load e_okI 1 4)) t_119_4
noncomputable def n_119_2 : e_Y := u_ld f_okA f_l0 n_119_3
theorem t_119_2 : e_Sn 119 2 (e_un n_119_2) := u_ldAT f_l0_eq (s_aload (i := .aload_n 0) (len := 1) hq_119 (by decide +kernel) rfl (.inr ⟨0, rfl, rfl, rfl⟩) : e_Sn 119 2 (o_load e_okR 0 3)) t_119_3
noncomputable def n_119_1 : e_Y := u_push (.inl 2147483648) n_119_2
theorem t_119_1 : e_Sn 119 1 (e_un n_119_1) := u_pushT (s_iconst (n := (0)) hq_119 (by decide +kernel) rfl ⟨by decide +kernel, by decide +kernel⟩ : e_Sn 119 1 (o_push (.inl 2147483648) 2)) t_119_2
noncomputable def n_119_0 : e_Y := u_ld f_okA f_l3 n_119_1
theorem t_119_0 : e_Sn 119 0 (e_un n_119_0) := u_ldAT f_l3_eq (s_aload (i := .aload_n 3) (len := 1) hq_119 (by decide +kernel) rfl (.inr ⟨3, rfl, rfl, rfl⟩) : e_Sn 119 0 (o_load e_okR 3 1)) t_119_1
noncomputable def e_tb_119 : e_X := (e_br 13 (e_br 8 (e_lf 0 (e_un n_119_0)) (e_lf 8 (e_un n_119_8))) (e_br 17 (e_lf 13 (e_un n_119_13)) (e_lf 17 (e_un n_119_17))))
theorem e_tk_119 : e_Tb 119 e_tb_119 := (e_brT (e_brT (e_lfT t_119_0) (e_lfT t_119_8)) (e_brT (e_lfT t_119_13) (e_lfT t_119_17)))
theorem hq_120 : (e_ml[120]?).map (·.2.1) = some method_19_code := rfl
theorem ho_120 : (e_ml[120]?).map (·.1.cls) = some "PlateroomprinterLaw" := rfl
theorem hr_120 : (e_ml[120]?).map (·.2.2.2) = some (some .int) := rfl
noncomputable def n_120_20 : e_Y := u_retI
theorem t_120_20 : e_Sn 120 20 (e_un n_120_20) := u_retIT (s_iret hq_120 hr_120 (by decide +kernel) : e_Sn 120 20 (o_ret e_okI))
noncomputable def n_120_19 : e_Y := u_push (.inl 2147483648) n_120_20
theorem t_120_19 : e_Sn 120 19 (e_un n_120_19) := u_pushT (s_iconst (n := (0)) hq_120 (by decide +kernel) rfl ⟨by decide +kernel, by decide +kernel⟩ : e_Sn 120 19 (o_push (.inl 2147483648) 20)) t_120_20
noncomputable def n_120_18 : e_Y := u_retI
theorem t_120_18 : e_Sn 120 18 (e_un n_120_18) := u_retIT (s_iret hq_120 hr_120 (by decide +kernel) : e_Sn 120 18 (o_ret e_okI))
noncomputable def n_120_17 : e_Y := u_push (.inl 2147483649) n_120_18
theorem t_120_17 : e_Sn 120 17 (e_un n_120_17) := u_pushT (s_iconst (n := (1)) hq_120 (by decide +kernel) rfl ⟨by decide +kernel, by decide +kernel⟩ : e_Sn 120 17 (o_push (.inl 2147483649) 18)) t_120_18
noncomputable def n_120_15 : e_Y := u_st f_okA f_s5 n_120_17
theorem t_120_15 : e_Sn 120 15 (e_un n_120_15) := u_stAT (fun _ _ _ => f_s5_eq) (s_astore (i := .astore 5) (len := 2) hq_120 (by decide +kernel) rfl (.inl ⟨rfl, rfl⟩) : e_Sn 120 15 (o_store e_okR 5 17)) t_120_17
noncomputable def n_120_12 : e_Y := n_120_19
theorem t_120_12 : e_Sn 120 12 (e_un n_120_12) := u_gotoT (s_goto (off := (7)) hq_120 (by decide +kernel) rfl : e_Sn 120 12 (o_goto 19)) t_120_19
noncomputable def n_120_11 : e_Y := u_old (o_ast 2 e_okL 12) n_120_12
theorem t_120_11 : e_Sn 120 11 (e_un n_120_11) := u_oldT (s_last hq_120 (by decide +kernel) rfl : e_Sn 120 11 (o_ast 2 e_okL 12)) t_120_12 (e_cg_ast 2 e_okL)
noncomputable def n_120_10 : e_Y := u_old (o_i2l 11) n_120_11
theorem t_120_10 : e_Sn 120 10 (e_un n_120_10) := u_oldT (s_i2l hq_120 (by decide +kernel) rfl : e_Sn 120 10 (o_i2l 11)) t_120_11 e_congr_i2l
noncomputable def n_120_7 : e_Y := u_tab (o_callVX (e_s1 0 38 4) 4 10 [(0, 15)])
theorem t_120_7 : e_Sn 120 7 (e_un n_120_7) := u_tabT (s_callVX (ci := 0) (C := er_0) (T := et_0) (N := 17) (index := 69) hq_120 ho_120 hy_38 hp_38 hc_38 hi_38 hd_38 (List.mem_of_getElem? (i := 1668) (by decide +kernel)) hs_38 (List.mem_of_getElem? (i := 1670) (by decide +kernel)) rfl (by decide +kernel) rfl hy_120 hc_120 (e_hc1 rfl rfl (by decide) (List.mem_of_getElem? (i := 1564) (by decide +kernel)) (List.mem_of_getElem? (i := 1296) (by decide +kernel))) : e_Sn 120 7 (o_callVX (e_s1 0 38 4) 4 10 [(0, 15)]))
noncomputable def n_120_6 : e_Y := u_ld f_okI f_l3 n_120_7
theorem t_120_6 : e_Sn 120 6 (e_un n_120_6) := u_ldIT f_l3_eq (s_iload (i := .iload_n 3) (len := 1) hq_120 (by decide +kernel) rfl (.inr ⟨3, rfl, rfl, rfl⟩) : e_Sn 120 6 (o_load e_okI 3 7)) t_120_7
noncomputable def n_120_5 : e_Y := u_ld f_okI f_l2 n_120_6
theorem t_120_5 : e_Sn 120 5 (e_un n_120_5) := u_ldIT f_l2_eq (s_iload (i := .iload_n 2) (len := 1) hq_120 (by decide +kernel) rfl (.inr ⟨2, rfl, rfl, rfl⟩) : e_Sn 120 5 (o_load e_okI 2 6)) t_120_6
noncomputable def n_120_4 : e_Y := u_ld f_okI f_l1 n_120_5
theorem t_120_4 : e_Sn 120 4 (e_un n_120_4) := u_ldIT f_l1_eq (s_iload (i := .iload_n 1) (len := 1) hq_120 (by decide +kernel) rfl (.inr ⟨1, rfl, rfl, rfl⟩) : e_Sn 120 4 (o_load e_okI 1 5)) t_120_5
noncomputable def n_120_3 : e_Y := u_ld f_okA f_l0 n_120_4
theorem t_120_3 : e_Sn 120 3 (e_un n_120_3) := u_ldAT f_l0_eq (s_aload (i := .aload_n 0) (len := 1) hq_120 (by decide +kernel) rfl (.inr ⟨0, rfl, rfl, rfl⟩) : e_Sn 120 3 (o_load e_okR 0 4)) t_120_4
noncomputable def n_120_2 : e_Y := u_push (.inl 2147483648) n_120_3
theorem t_120_2 : e_Sn 120 2 (e_un n_120_2) := u_pushT (s_iconst (n := (0)) hq_120 (by decide +kernel) rfl ⟨by decide +kernel, by decide +kernel⟩ : e_Sn 120 2 (o_push (.inl 2147483648) 3)) t_120_3
noncomputable def n_120_0 : e_Y := u_ld f_okA f_l4 n_120_2
theorem t_120_0 : e_Sn 120 0 (e_un n_120_0) := u_ldAT f_l4_eq (s_aload (i := .aload 4) (len := 2) hq_120 (by decide +kernel) rfl (.inl ⟨rfl, rfl⟩) : e_Sn 120 0 (o_load e_okR 4 2)) t_120_2
noncomputable def e_tb_120 : e_X := (e_br 10 (e_lf 0 (e_un n_120_0)) (e_br 15 (e_lf 10 (e_un n_120_10)) (e_lf 15 (e_un n_120_15))))
theorem e_tk_120 : e_Tb 120 e_tb_120 := (e_brT (e_lfT t_120_0) (e_brT (e_lfT t_120_10) (e_lfT t_120_15)))
theorem hq_121 : (e_ml[121]?).map (·.2.1) = some method_9_code := rfl
theorem ho_121 : (e_ml[121]?).map (·.1.cls) = some "PlateroomprinterLaw" := rfl
theorem hr_121 : (e_ml[121]?).map (·.2.2.2) = some (some .int) := rfl
noncomputable def n_121_22 : e_Y := u_retI
theorem t_121_22 : e_Sn 121 22 (e_un n_121_22) := u_retIT (s_iret hq_121 hr_121 (by decide +kernel) : e_Sn 121 22 (o_ret e_okI))
noncomputable def n_121_21 : e_Y := u_push (.inl 2147483648) n_121_22
theorem t_121_21 : e_Sn 121 21 (e_un n_121_21) := u_pushT (s_iconst (n := (0)) hq_121 (by decide +kernel) rfl ⟨by decide +kernel, by decide +kernel⟩ : e_Sn 121 21 (o_push (.inl 2147483648) 22)) t_121_22
noncomputable def n_121_20 : e_Y := u_retI
theorem t_121_20 : e_Sn 121 20 (e_un n_121_20) := u_retIT (s_iret hq_121 hr_121 (by decide +kernel) : e_Sn 121 20 (o_ret e_okI))
noncomputable def n_121_19 : e_Y := u_push (.inl 2147483650) n_121_20
theorem t_121_19 : e_Sn 121 19 (e_un n_121_19) := u_pushT (s_iconst (n := (2)) hq_121 (by decide +kernel) rfl ⟨by decide +kernel, by decide +kernel⟩ : e_Sn 121 19 (o_push (.inl 2147483650) 20)) t_121_20
noncomputable def n_121_17 : e_Y := u_st f_okA f_s4 n_121_19
theorem t_121_17 : e_Sn 121 17 (e_un n_121_17) := u_stAT (fun _ _ _ => f_s4_eq) (s_astore (i := .astore 4) (len := 2) hq_121 (by decide +kernel) rfl (.inl ⟨rfl, rfl⟩) : e_Sn 121 17 (o_store e_okR 4 19)) t_121_19
noncomputable def n_121_16 : e_Y := u_retI
theorem t_121_16 : e_Sn 121 16 (e_un n_121_16) := u_retIT (s_iret hq_121 hr_121 (by decide +kernel) : e_Sn 121 16 (o_ret e_okI))
noncomputable def n_121_15 : e_Y := u_push (.inl 2147483649) n_121_16
theorem t_121_15 : e_Sn 121 15 (e_un n_121_15) := u_pushT (s_iconst (n := (1)) hq_121 (by decide +kernel) rfl ⟨by decide +kernel, by decide +kernel⟩ : e_Sn 121 15 (o_push (.inl 2147483649) 16)) t_121_16
noncomputable def n_121_13 : e_Y := u_st f_okA f_s4 n_121_15
theorem t_121_13 : e_Sn 121 13 (e_un n_121_13) := u_stAT (fun _ _ _ => f_s4_eq) (s_astore (i := .astore 4) (len := 2) hq_121 (by decide +kernel) rfl (.inl ⟨rfl, rfl⟩) : e_Sn 121 13 (o_store e_okR 4 15)) t_121_15
noncomputable def n_121_10 : e_Y := n_121_21
theorem t_121_10 : e_Sn 121 10 (e_un n_121_10) := u_gotoT (s_goto (off := (11)) hq_121 (by decide +kernel) rfl : e_Sn 121 10 (o_goto 21)) t_121_21
noncomputable def n_121_9 : e_Y := u_old (o_ast 2 e_okL 10) n_121_10
theorem t_121_9 : e_Sn 121 9 (e_un n_121_9) := u_oldT (s_last hq_121 (by decide +kernel) rfl : e_Sn 121 9 (o_ast 2 e_okL 10)) t_121_10 (e_cg_ast 2 e_okL)
noncomputable def n_121_8 : e_Y := u_old (o_i2l 9) n_121_9
theorem t_121_8 : e_Sn 121 8 (e_un n_121_8) := u_oldT (s_i2l hq_121 (by decide +kernel) rfl : e_Sn 121 8 (o_i2l 9)) t_121_9 e_congr_i2l
noncomputable def n_121_5 : e_Y := u_tab (o_callVX (e_s1 0 40 3) 3 8 [(2, 13), (0, 17)])
theorem t_121_5 : e_Sn 121 5 (e_un n_121_5) := u_tabT (s_callVX (ci := 0) (C := er_0) (T := et_0) (N := 17) (index := 37) hq_121 ho_121 hy_40 hp_40 hc_40 hi_40 hd_40 (List.mem_of_getElem? (i := 1625) (by decide +kernel)) hs_40 (List.mem_of_getElem? (i := 1479) (by decide +kernel)) rfl (by decide +kernel) rfl hy_121 hc_121 (e_hc2 rfl rfl (by decide) (List.mem_of_getElem? (i := 1612) (by decide +kernel)) (List.mem_of_getElem? (i := 1404) (by decide +kernel)) rfl rfl (by decide) (List.mem_of_getElem? (i := 1564) (by decide +kernel)) (List.mem_of_getElem? (i := 1296) (by decide +kernel)) (by simp [e_nc])) : e_Sn 121 5 (o_callVX (e_s1 0 40 3) 3 8 [(2, 13), (0, 17)]))
noncomputable def n_121_4 : e_Y := u_ld f_okI f_l2 n_121_5
theorem t_121_4 : e_Sn 121 4 (e_un n_121_4) := u_ldIT f_l2_eq (s_iload (i := .iload_n 2) (len := 1) hq_121 (by decide +kernel) rfl (.inr ⟨2, rfl, rfl, rfl⟩) : e_Sn 121 4 (o_load e_okI 2 5)) t_121_5
noncomputable def n_121_3 : e_Y := u_ld f_okI f_l1 n_121_4
theorem t_121_3 : e_Sn 121 3 (e_un n_121_3) := u_ldIT f_l1_eq (s_iload (i := .iload_n 1) (len := 1) hq_121 (by decide +kernel) rfl (.inr ⟨1, rfl, rfl, rfl⟩) : e_Sn 121 3 (o_load e_okI 1 4)) t_121_4
noncomputable def n_121_2 : e_Y := u_ld f_okA f_l0 n_121_3
theorem t_121_2 : e_Sn 121 2 (e_un n_121_2) := u_ldAT f_l0_eq (s_aload (i := .aload_n 0) (len := 1) hq_121 (by decide +kernel) rfl (.inr ⟨0, rfl, rfl, rfl⟩) : e_Sn 121 2 (o_load e_okR 0 3)) t_121_3
noncomputable def n_121_1 : e_Y := u_push (.inl 2147483648) n_121_2
theorem t_121_1 : e_Sn 121 1 (e_un n_121_1) := u_pushT (s_iconst (n := (0)) hq_121 (by decide +kernel) rfl ⟨by decide +kernel, by decide +kernel⟩ : e_Sn 121 1 (o_push (.inl 2147483648) 2)) t_121_2
noncomputable def n_121_0 : e_Y := u_ld f_okA f_l3 n_121_1
theorem t_121_0 : e_Sn 121 0 (e_un n_121_0) := u_ldAT f_l3_eq (s_aload (i := .aload_n 3) (len := 1) hq_121 (by decide +kernel) rfl (.inr ⟨3, rfl, rfl, rfl⟩) : e_Sn 121 0 (o_load e_okR 3 1)) t_121_1
noncomputable def e_tb_121 : e_X := (e_br 13 (e_br 8 (e_lf 0 (e_un n_121_0)) (e_lf 8 (e_un n_121_8))) (e_br 17 (e_lf 13 (e_un n_121_13)) (e_lf 17 (e_un n_121_17))))
theorem e_tk_121 : e_Tb 121 e_tb_121 := (e_brT (e_brT (e_lfT t_121_0) (e_lfT t_121_8)) (e_brT (e_lfT t_121_13) (e_lfT t_121_17)))
theorem hq_122 : (e_ml[122]?).map (·.2.1) = some method_29_code := rfl
theorem ho_122 : (e_ml[122]?).map (·.1.cls) = some "PlateroomprinterLaw" := rfl
theorem hr_122 : (e_ml[122]?).map (·.2.2.2) = some (some .int) := rfl
noncomputable def n_122_16 : e_Y := u_retI
theorem t_122_16 : e_Sn 122 16 (e_un n_122_16) := u_retIT (s_iret hq_122 hr_122 (by decide +kernel) : e_Sn 122 16 (o_ret e_okI))
noncomputable def n_122_15 : e_Y := u_push (.inl 2147483648) n_122_16
theorem t_122_15 : e_Sn 122 15 (e_un n_122_15) := u_pushT (s_iconst (n := (0)) hq_122 (by decide +kernel) rfl ⟨by decide +kernel, by decide +kernel⟩ : e_Sn 122 15 (o_push (.inl 2147483648) 16)) t_122_16
noncomputable def n_122_14 : e_Y := u_retI
theorem t_122_14 : e_Sn 122 14 (e_un n_122_14) := u_retIT (s_iret hq_122 hr_122 (by decide +kernel) : e_Sn 122 14 (o_ret e_okI))
noncomputable def n_122_13 : e_Y := u_push (.inl 2147483649) n_122_14
theorem t_122_13 : e_Sn 122 13 (e_un n_122_13) := u_pushT (s_iconst (n := (1)) hq_122 (by decide +kernel) rfl ⟨by decide +kernel, by decide +kernel⟩ : e_Sn 122 13 (o_push (.inl 2147483649) 14)) t_122_14
noncomputable def n_122_12 : e_Y := u_st f_okA f_s3 n_122_13
theorem t_122_12 : e_Sn 122 12 (e_un n_122_12) := u_stAT (fun _ _ _ => f_s3_eq) (s_astore (i := .astore_n 3) (len := 1) hq_122 (by decide +kernel) rfl (.inr ⟨3, rfl, rfl, rfl⟩) : e_Sn 122 12 (o_store e_okR 3 13)) t_122_13
noncomputable def n_122_9 : e_Y := n_122_15
theorem t_122_9 : e_Sn 122 9 (e_un n_122_9) := u_gotoT (s_goto (off := (6)) hq_122 (by decide +kernel) rfl : e_Sn 122 9 (o_goto 15)) t_122_15
noncomputable def n_122_8 : e_Y := u_old (o_ast 2 e_okL 9) n_122_9
theorem t_122_8 : e_Sn 122 8 (e_un n_122_8) := u_oldT (s_last hq_122 (by decide +kernel) rfl : e_Sn 122 8 (o_ast 2 e_okL 9)) t_122_9 (e_cg_ast 2 e_okL)
noncomputable def n_122_7 : e_Y := u_old (o_i2l 8) n_122_8
theorem t_122_7 : e_Sn 122 7 (e_un n_122_7) := u_oldT (s_i2l hq_122 (by decide +kernel) rfl : e_Sn 122 7 (o_i2l 8)) t_122_8 e_congr_i2l
noncomputable def n_122_4 : e_Y := u_tab (o_callVX (e_s1 0 43 2) 2 7 [(0, 12)])
theorem t_122_4 : e_Sn 122 4 (e_un n_122_4) := u_tabT (s_callVX (ci := 0) (C := er_0) (T := et_0) (N := 17) (index := 101) hq_122 ho_122 hy_43 hp_43 hc_43 hi_43 hd_43 (List.mem_of_getElem? (i := 1730) (by decide +kernel)) hs_43 (List.mem_of_getElem? (i := 1552) (by decide +kernel)) rfl (by decide +kernel) rfl hy_122 hc_122 (e_hc1 rfl rfl (by decide) (List.mem_of_getElem? (i := 1564) (by decide +kernel)) (List.mem_of_getElem? (i := 1296) (by decide +kernel))) : e_Sn 122 4 (o_callVX (e_s1 0 43 2) 2 7 [(0, 12)]))
noncomputable def n_122_3 : e_Y := u_ld f_okI f_l1 n_122_4
theorem t_122_3 : e_Sn 122 3 (e_un n_122_3) := u_ldIT f_l1_eq (s_iload (i := .iload_n 1) (len := 1) hq_122 (by decide +kernel) rfl (.inr ⟨1, rfl, rfl, rfl⟩) : e_Sn 122 3 (o_load e_okI 1 4)) t_122_4
noncomputable def n_122_2 : e_Y := u_ld f_okA f_l0 n_122_3
theorem t_122_2 : e_Sn 122 2 (e_un n_122_2) := u_ldAT f_l0_eq (s_aload (i := .aload_n 0) (len := 1) hq_122 (by decide +kernel) rfl (.inr ⟨0, rfl, rfl, rfl⟩) : e_Sn 122 2 (o_load e_okR 0 3)) t_122_3
noncomputable def n_122_1 : e_Y := u_push (.inl 2147483648) n_122_2
theorem t_122_1 : e_Sn 122 1 (e_un n_122_1) := u_pushT (s_iconst (n := (0)) hq_122 (by decide +kernel) rfl ⟨by decide +kernel, by decide +kernel⟩ : e_Sn 122 1 (o_push (.inl 2147483648) 2)) t_122_2
noncomputable def n_122_0 : e_Y := u_ld f_okA f_l2 n_122_1
theorem t_122_0 : e_Sn 122 0 (e_un n_122_0) := u_ldAT f_l2_eq (s_aload (i := .aload_n 2) (len := 1) hq_122 (by decide +kernel) rfl (.inr ⟨2, rfl, rfl, rfl⟩) : e_Sn 122 0 (o_load e_okR 2 1)) t_122_1
noncomputable def e_tb_122 : e_X := (e_br 7 (e_lf 0 (e_un n_122_0)) (e_br 12 (e_lf 7 (e_un n_122_7)) (e_lf 12 (e_un n_122_12))))
theorem e_tk_122 : e_Tb 122 e_tb_122 := (e_brT (e_lfT t_122_0) (e_brT (e_lfT t_122_7) (e_lfT t_122_12)))
theorem hq_123 : (e_ml[123]?).map (·.2.1) = some method_15_code := rfl
theorem ho_123 : (e_ml[123]?).map (·.1.cls) = some "PlateroomprinterLaw" := rfl
theorem hr_123 : (e_ml[123]?).map (·.2.2.2) = some (some .int) := rfl
noncomputable def n_123_18 : e_Y := u_retI
theorem t_123_18 : e_Sn 123 18 (e_un n_123_18) := u_retIT (s_iret hq_123 hr_123 (by decide +kernel) : e_Sn 123 18 (o_ret e_okI))
noncomputable def n_123_17 : e_Y := u_push (.inl 2147483649) n_123_18
theorem t_123_17 : e_Sn 123 17 (e_un n_123_17) := u_pushT (s_iconst (n := (1)) hq_123 (by decide +kernel) rfl ⟨by decide +kernel, by decide +kernel⟩ : e_Sn 123 17 (o_push (.inl 2147483649) 18)) t_123_18
noncomputable def n_123_15 : e_Y := u_st f_okA f_s5 n_123_17
theorem t_123_15 : e_Sn 123 15 (e_un n_123_15) := u_stAT (fun _ _ _ => f_s5_eq) (s_astore (i := .astore 5) (len := 2) hq_123 (by decide +kernel) rfl (.inl ⟨rfl, rfl⟩) : e_Sn 123 15 (o_store e_okR 5 17)) t_123_17
noncomputable def n_123_7 : e_Y := u_tab (o_callVX (e_s1 0 44 6) 4 10 [(2, 15), (0, 19)])
theorem t_123_7 : e_Sn 123 7 (e_un n_123_7) := u_tabT (s_callVX (ci := 0) (C := er_0) (T := et_0) (N := 17) (index := 55) hq_123 ho_123 hy_44 hp_44 hc_44 hi_44 hd_44 (List.mem_of_getElem? (i := 1649) (by decide +kernel)) hs_44 (List.mem_of_getElem? (i := 1517) (by decide +kernel)) rfl (by decide +kernel) rfl hy_123 hc_123 (e_hc2 rfl rfl (by decide) (List.mem_of_getElem? (i := 1612) (by decide +kernel)) (List.mem_of_getElem? (i := 1404) (by decide +kernel)) rfl rfl (by decide) (List.mem_of_getElem? (i := 1564) (by decide +kernel)) (List.mem_of_getElem? (i := 1296) (by decide +kernel)) (by simp [e_nc])) : e_Sn 123 7 (o_callVX (e_s1 0 44 6) 4 10 [(2, 15), (0, 19)]))
noncomputable def n_123_6 : e_Y := u_ld f_okI f_l3 n_123_7
theorem t_123_6 : e_Sn 123 6 (e_un n_123_6) := u_ldIT f_l3_eq (s_iload (i := .iload_n 3) (len := 1) hq_123 (by decide +kernel) rfl (.inr ⟨3, rfl, rfl, rfl⟩) : e_Sn 123 6 (o_load e_okI 3 7)) t_123_7
noncomputable def n_123_5 : e_Y := u_ld f_okI f_l2 n_123_6
theorem t_123_5 : e_Sn 123 5 (e_un n_123_5) := u_ldIT f_l2_eq (s_iload (i := .iload_n 2) (len := 1) hq_123 (by decide +kernel) rfl (.inr ⟨2, rfl, rfl, rfl⟩) : e_Sn 123 5 (o_load e_okI 2 6)) t_123_6
noncomputable def n_123_4 : e_Y := u_ld f_okI f_l1 n_123_5
theorem t_123_4 : e_Sn 123 4 (e_un n_123_4) := u_ldIT f_l1_eq (s_iload (i := .iload_n 1) (len := 1) hq_123 (by decide +kernel) rfl (.inr ⟨1, rfl, rfl, rfl⟩) : e_Sn 123 4 (o_load e_okI 1 5)) t_123_5
noncomputable def n_123_3 : e_Y := u_ld f_okA f_l0 n_123_4
theorem t_123_3 : e_Sn 123 3 (e_un n_123_3) := u_ldAT f_l0_eq (s_aload (i := .aload_n 0) (len := 1) hq_123 (by decide +kernel) rfl (.inr ⟨0, rfl, rfl, rfl⟩) : e_Sn 123 3 (o_load e_okR 0 4)) t_123_4
noncomputable def n_123_2 : e_Y := u_push (.inl 2147483648) n_123_3
theorem t_123_2 : e_Sn 123 2 (e_un n_123_2) := u_pushT (s_iconst (n := (0)) hq_123 (by decide +kernel) rfl ⟨by decide +kernel, by decide +kernel⟩ : e_Sn 123 2 (o_push (.inl 2147483648) 3)) t_123_3
noncomputable def n_123_0 : e_Y := u_ld f_okA f_l4 n_123_2
theorem t_123_0 : e_Sn 123 0 (e_un n_123_0) := u_ldAT f_l4_eq (s_aload (i := .aload 4) (len := 2) hq_123 (by decide +kernel) rfl (.inl ⟨rfl, rfl⟩) : e_Sn 123 0 (o_load e_okR 4 2)) t_123_2
noncomputable def e_tb_123 : e_X := (e_br 15 (e_lf 0 (e_un n_123_0)) (e_lf 15 (e_un n_123_15)))
theorem e_tk_123 : e_Tb 123 e_tb_123 := (e_brT (e_lfT t_123_0) (e_lfT t_123_15))
theorem hq_124 : (e_ml[124]?).map (·.2.1) = some method_14_code := rfl
theorem ho_124 : (e_ml[124]?).map (·.1.cls) = some "PlateroomprinterLaw" := rfl
theorem hr_124 : (e_ml[124]?).map (·.2.2.2) = some (some .int) := rfl
noncomputable def n_124_16 : e_Y := u_retI
theorem t_124_16 : e_Sn 124 16 (e_un n_124_16) := u_retIT (s_iret hq_124 hr_124 (by decide +kernel) : e_Sn 124 16 (o_ret e_okI))
noncomputable def n_124_15 : e_Y := u_push (.inl 2147483649) n_124_16
theorem t_124_15 : e_Sn 124 15 (e_un n_124_15) := u_pushT (s_iconst (n := (1)) hq_124 (by decide +kernel) rfl ⟨by decide +kernel, by decide +kernel⟩ : e_Sn 124 15 (o_push (.inl 2147483649) 16)) t_124_16
noncomputable def n_124_13 : e_Y := u_st f_okA f_s4 n_124_15
theorem t_124_13 : e_Sn 124 13 (e_un n_124_13) := u_stAT (fun _ _ _ => f_s4_eq) (s_astore (i := .astore 4) (len := 2) hq_124 (by decide +kernel) rfl (.inl ⟨rfl, rfl⟩) : e_Sn 124 13 (o_store e_okR 4 15)) t_124_15
noncomputable def n_124_5 : e_Y := u_tab (o_callVX (e_s1 0 45 4) 3 8 [(2, 13), (0, 17)])
theorem t_124_5 : e_Sn 124 5 (e_un n_124_5) := u_tabT (s_callVX (ci := 0) (C := er_0) (T := et_0) (N := 17) (index := 52) hq_124 ho_124 hy_45 hp_45 hc_45 hi_45 hd_45 (List.mem_of_getElem? (i := 1645) (by decide +kernel)) hs_45 (List.mem_of_getElem? (i := 1512) (by decide +kernel)) rfl (by decide +kernel) rfl hy_124 hc_124 (e_hc2 rfl rfl (by decide) (List.mem_of_getElem? (i := 1612) (by decide +kernel)) (List.mem_of_getElem? (i := 1404) (by decide +kernel)) rfl rfl (by decide) (List.mem_of_getElem? (i := 1564) (by decide +kernel)) (List.mem_of_getElem? (i := 1296) (by decide +kernel)) (by simp [e_nc])) : e_Sn 124 5 (o_callVX (e_s1 0 45 4) 3 8 [(2, 13), (0, 17)]))
noncomputable def n_124_4 : e_Y := u_ld f_okI f_l2 n_124_5
theorem t_124_4 : e_Sn 124 4 (e_un n_124_4) := u_ldIT f_l2_eq (s_iload (i := .iload_n 2) (len := 1) hq_124 (by decide +kernel) rfl (.inr ⟨2, rfl, rfl, rfl⟩) : e_Sn 124 4 (o_load e_okI 2 5)) t_124_5
noncomputable def n_124_3 : e_Y := u_ld f_okI f_l1 n_124_4
theorem t_124_3 : e_Sn 124 3 (e_un n_124_3) := u_ldIT f_l1_eq (s_iload (i := .iload_n 1) (len := 1) hq_124 (by decide +kernel) rfl (.inr ⟨1, rfl, rfl, rfl⟩) : e_Sn 124 3 (o_load e_okI 1 4)) t_124_4
noncomputable def n_124_2 : e_Y := u_ld f_okA f_l0 n_124_3
theorem t_124_2 : e_Sn 124 2 (e_un n_124_2) := u_ldAT f_l0_eq (s_aload (i := .aload_n 0) (len := 1) hq_124 (by decide +kernel) rfl (.inr ⟨0, rfl, rfl, rfl⟩) : e_Sn 124 2 (o_load e_okR 0 3)) t_124_3
noncomputable def n_124_1 : e_Y := u_push (.inl 2147483648) n_124_2
theorem t_124_1 : e_Sn 124 1 (e_un n_124_1) := u_pushT (s_iconst (n := (0)) hq_124 (by decide +kernel) rfl ⟨by decide +kernel, by decide +kernel⟩ : e_Sn 124 1 (o_push (.inl 2147483648) 2)) t_124_2
noncomputable def n_124_0 : e_Y := u_ld f_okA f_l3 n_124_1
theorem t_124_0 : e_Sn 124 0 (e_un n_124_0) := u_ldAT f_l3_eq (s_aload (i := .aload_n 3) (len := 1) hq_124 (by decide +kernel) rfl (.inr ⟨3, rfl, rfl, rfl⟩) : e_Sn 124 0 (o_load e_okR 3 1)) t_124_1
noncomputable def e_tb_124 : e_X := (e_br 13 (e_lf 0 (e_un n_124_0)) (e_lf 13 (e_un n_124_13)))
theorem e_tk_124 : e_Tb 124 e_tb_124 := (e_brT (e_lfT t_124_0) (e_lfT t_124_13))
theorem hq_125 : (e_ml[125]?).map (·.2.1) = some method_24_code := rfl
theorem ho_125 : (e_ml[125]?).map (·.1.cls) = some "PlateroomprinterLaw" := rfl
theorem hr_125 : (e_ml[125]?).map (·.2.2.2) = some (some .int) := rfl
noncomputable def n_125_18 : e_Y := u_retI
theorem t_125_18 : e_Sn 125 18 (e_un n_125_18) := u_retIT (s_iret hq_125 hr_125 (by decide +kernel) : e_Sn 125 18 (o_ret e_okI))
noncomputable def n_125_17 : e_Y := u_push (.inl 2147483648) n_125_18
theorem t_125_17 : e_Sn 125 17 (e_un n_125_17) := u_pushT (s_iconst (n := (0)) hq_125 (by decide +kernel) rfl ⟨by decide +kernel, by decide +kernel⟩ : e_Sn 125 17 (o_push (.inl 2147483648) 18)) t_125_18
noncomputable def n_125_16 : e_Y := u_retI
theorem t_125_16 : e_Sn 125 16 (e_un n_125_16) := u_retIT (s_iret hq_125 hr_125 (by decide +kernel) : e_Sn 125 16 (o_ret e_okI))
noncomputable def n_125_15 : e_Y := u_push (.inl 2147483649) n_125_16
theorem t_125_15 : e_Sn 125 15 (e_un n_125_15) := u_pushT (s_iconst (n := (1)) hq_125 (by decide +kernel) rfl ⟨by decide +kernel, by decide +kernel⟩ : e_Sn 125 15 (o_push (.inl 2147483649) 16)) t_125_16
noncomputable def n_125_13 : e_Y := u_st f_okA f_s4 n_125_15
theorem t_125_13 : e_Sn 125 13 (e_un n_125_13) := u_stAT (fun _ _ _ => f_s4_eq) (s_astore (i := .astore 4) (len := 2) hq_125 (by decide +kernel) rfl (.inl ⟨rfl, rfl⟩) : e_Sn 125 13 (o_store e_okR 4 15)) t_125_15
noncomputable def n_125_10 : e_Y := n_125_17
theorem t_125_10 : e_Sn 125 10 (e_un n_125_10) := u_gotoT (s_goto (off := (7)) hq_125 (by decide +kernel) rfl : e_Sn 125 10 (o_goto 17)) t_125_17
noncomputable def n_125_9 : e_Y := u_old (o_ast 2 e_okL 10) n_125_10
theorem t_125_9 : e_Sn 125 9 (e_un n_125_9) := u_oldT (s_last hq_125 (by decide +kernel) rfl : e_Sn 125 9 (o_ast 2 e_okL 10)) t_125_10 (e_cg_ast 2 e_okL)
noncomputable def n_125_8 : e_Y := u_old (o_i2l 9) n_125_9
theorem t_125_8 : e_Sn 125 8 (e_un n_125_8) := u_oldT (s_i2l hq_125 (by decide +kernel) rfl : e_Sn 125 8 (o_i2l 9)) t_125_9 e_congr_i2l
noncomputable def n_125_5 : e_Y := u_tab (o_callVX (e_s1 0 46 3) 3 8 [(2, 13)])
theorem t_125_5 : e_Sn 125 5 (e_un n_125_5) := u_tabT (s_callVX (ci := 0) (C := er_0) (T := et_0) (N := 17) (index := 85) hq_125 ho_125 hy_46 hp_46 hc_46 hi_46 hd_46 (List.mem_of_getElem? (i := 1703) (by decide +kernel)) hs_46 (List.mem_of_getElem? (i := 1538) (by decide +kernel)) rfl (by decide +kernel) rfl hy_125 hc_125 (e_hc1 rfl rfl (by decide) (List.mem_of_getElem? (i := 1612) (by decide +kernel)) (List.mem_of_getElem? (i := 1404) (by decide +kernel))) : e_Sn 125 5 (o_callVX (e_s1 0 46 3) 3 8 [(2, 13)]))
noncomputable def n_125_4 : e_Y := u_ld f_okI f_l2 n_125_5
theorem t_125_4 : e_Sn 125 4 (e_un n_125_4) := u_ldIT f_l2_eq (s_iload (i := .iload_n 2) (len := 1) hq_125 (by decide +kernel) rfl (.inr ⟨2, rfl, rfl, rfl⟩) : e_Sn 125 4 (o_load e_okI 2 5)) t_125_5
noncomputable def n_125_3 : e_Y := u_ld f_okI f_l1 n_125_4
theorem t_125_3 : e_Sn 125 3 (e_un n_125_3) := u_ldIT f_l1_eq (s_iload (i := .iload_n 1) (len := 1) hq_125 (by decide +kernel) rfl (.inr ⟨1, rfl, rfl, rfl⟩) : e_Sn 125 3 (o_load e_okI 1 4)) t_125_4
noncomputable def n_125_2 : e_Y := u_ld f_okA f_l0 n_125_3
theorem t_125_2 : e_Sn 125 2 (e_un n_125_2) := u_ldAT f_l0_eq (s_aload (i := .aload_n 0) (len := 1) hq_125 (by decide +kernel) rfl (.inr ⟨0, rfl, rfl, rfl⟩) : e_Sn 125 2 (o_load e_okR 0 3)) t_125_3
noncomputable def n_125_1 : e_Y := u_push (.inl 2147483648) n_125_2
theorem t_125_1 : e_Sn 125 1 (e_un n_125_1) := u_pushT (s_iconst (n := (0)) hq_125 (by decide +kernel) rfl ⟨by decide +kernel, by decide +kernel⟩ : e_Sn 125 1 (o_push (.inl 2147483648) 2)) t_125_2
noncomputable def n_125_0 : e_Y := u_ld f_okA f_l3 n_125_1
theorem t_125_0 : e_Sn 125 0 (e_un n_125_0) := u_ldAT f_l3_eq (s_aload (i := .aload_n 3) (len := 1) hq_125 (by decide +kernel) rfl (.inr ⟨3, rfl, rfl, rfl⟩) : e_Sn 125 0 (o_load e_okR 3 1)) t_125_1
noncomputable def e_tb_125 : e_X := (e_br 8 (e_lf 0 (e_un n_125_0)) (e_br 13 (e_lf 8 (e_un n_125_8)) (e_lf 13 (e_un n_125_13))))
theorem e_tk_125 : e_Tb 125 e_tb_125 := (e_brT (e_lfT t_125_0) (e_brT (e_lfT t_125_8) (e_lfT t_125_13)))
theorem hq_126 : (e_ml[126]?).map (·.2.1) = some method_28_code := rfl
theorem ho_126 : (e_ml[126]?).map (·.1.cls) = some "PlateroomprinterLaw" := rfl
theorem hr_126 : (e_ml[126]?).map (·.2.2.2) = some (some .int) := rfl
noncomputable def n_126_18 : e_Y := u_retI
theorem t_126_18 : e_Sn 126 18 (e_un n_126_18) := u_retIT (s_iret hq_126 hr_126 (by decide +kernel) : e_Sn 126 18 (o_ret e_okI))
noncomputable def n_126_17 : e_Y := u_push (.inl 2147483648) n_126_18
theorem t_126_17 : e_Sn 126 17 (e_un n_126_17) := u_pushT (s_iconst (n := (0)) hq_126 (by decide +kernel) rfl ⟨by decide +kernel, by decide +kernel⟩ : e_Sn 126 17 (o_push (.inl 2147483648) 18)) t_126_18
noncomputable def n_126_16 : e_Y := u_retI
theorem t_126_16 : e_Sn 126 16 (e_un n_126_16) := u_retIT (s_iret hq_126 hr_126 (by decide +kernel) : e_Sn 126 16 (o_ret e_okI))
noncomputable def n_126_15 : e_Y := u_push (.inl 2147483649) n_126_16
theorem t_126_15 : e_Sn 126 15 (e_un n_126_15) := u_pushT (s_iconst (n := (1)) hq_126 (by decide +kernel) rfl ⟨by decide +kernel, by decide +kernel⟩ : e_Sn 126 15 (o_push (.inl 2147483649) 16)) t_126_16
noncomputable def n_126_13 : e_Y := u_st f_okA f_s4 n_126_15
theorem t_126_13 : e_Sn 126 13 (e_un n_126_13) := u_stAT (fun _ _ _ => f_s4_eq) (s_astore (i := .astore 4) (len := 2) hq_126 (by decide +kernel) rfl (.inl ⟨rfl, rfl⟩) : e_Sn 126 13 (o_store e_okR 4 15)) t_126_15
noncomputable def n_126_10 : e_Y := n_126_17
theorem t_126_10 : e_Sn 126 10 (e_un n_126_10) := u_gotoT (s_goto (off := (7)) hq_126 (by decide +kernel) rfl : e_Sn 126 10 (o_goto 17)) t_126_17
noncomputable def n_126_9 : e_Y := u_old (o_ast 2 e_okL 10) n_126_10
theorem t_126_9 : e_Sn 126 9 (e_un n_126_9) := u_oldT (s_last hq_126 (by decide +kernel) rfl : e_Sn 126 9 (o_ast 2 e_okL 10)) t_126_10 (e_cg_ast 2 e_okL)
noncomputable def n_126_8 : e_Y := u_old (o_i2l 9) n_126_9
theorem t_126_8 : e_Sn 126 8 (e_un n_126_8) := u_oldT (s_i2l hq_126 (by decide +kernel) rfl : e_Sn 126 8 (o_i2l 9)) t_126_9 e_congr_i2l
noncomputable def n_126_5 : e_Y := u_tab (o_callVX (e_s1 0 48 4) 3 8 [(2, 13)])
theorem t_126_5 : e_Sn 126 5 (e_un n_126_5) := u_tabT (s_callVX (ci := 0) (C := er_0) (T := et_0) (N := 17) (index := 98) hq_126 ho_126 hy_48 hp_48 hc_48 hi_48 hd_48 (List.mem_of_getElem? (i := 1723) (by decide +kernel)) hs_48 (List.mem_of_getElem? (i := 1725) (by decide +kernel)) rfl (by decide +kernel) rfl hy_126 hc_126 (e_hc1 rfl rfl (by decide) (List.mem_of_getElem? (i := 1612) (by decide +kernel)) (List.mem_of_getElem? (i := 1404) (by decide +kernel))) : e_Sn 126 5 (o_callVX (e_s1 0 48 4) 3 8 [(2, 13)]))
noncomputable def n_126_4 : e_Y := u_ld f_okI f_l2 n_126_5
theorem t_126_4 : e_Sn 126 4 (e_un n_126_4) := u_ldIT f_l2_eq (s_iload (i := .iload_n 2) (len := 1) hq_126 (by decide +kernel) rfl (.inr ⟨2, rfl, rfl, rfl⟩) : e_Sn 126 4 (o_load e_okI 2 5)) t_126_5
noncomputable def n_126_3 : e_Y := u_ld f_okI f_l1 n_126_4
theorem t_126_3 : e_Sn 126 3 (e_un n_126_3) := u_ldIT f_l1_eq (s_iload (i := .iload_n 1) (len := 1) hq_126 (by decide +kernel) rfl (.inr ⟨1, rfl, rfl, rfl⟩) : e_Sn 126 3 (o_load e_okI 1 4)) t_126_4
noncomputable def n_126_2 : e_Y := u_ld f_okA f_l0 n_126_3
theorem t_126_2 : e_Sn 126 2 (e_un n_126_2) := u_ldAT f_l0_eq (s_aload (i := .aload_n 0) (len := 1) hq_126 (by decide +kernel) rfl (.inr ⟨0, rfl, rfl, rfl⟩) : e_Sn 126 2 (o_load e_okR 0 3)) t_126_3
noncomputable def n_126_1 : e_Y := u_push (.inl 2147483648) n_126_2
theorem t_126_1 : e_Sn 126 1 (e_un n_126_1) := u_pushT (s_iconst (n := (0)) hq_126 (by decide +kernel) rfl ⟨by decide +kernel, by decide +kernel⟩ : e_Sn 126 1 (o_push (.inl 2147483648) 2)) t_126_2
noncomputable def n_126_0 : e_Y := u_ld f_okA f_l3 n_126_1
theorem t_126_0 : e_Sn 126 0 (e_un n_126_0) := u_ldAT f_l3_eq (s_aload (i := .aload_n 3) (len := 1) hq_126 (by decide +kernel) rfl (.inr ⟨3, rfl, rfl, rfl⟩) : e_Sn 126 0 (o_load e_okR 3 1)) t_126_1
noncomputable def e_tb_126 : e_X := (e_br 8 (e_lf 0 (e_un n_126_0)) (e_br 13 (e_lf 8 (e_un n_126_8)) (e_lf 13 (e_un n_126_13))))
theorem e_tk_126 : e_Tb 126 e_tb_126 := (e_brT (e_lfT t_126_0) (e_brT (e_lfT t_126_8) (e_lfT t_126_13)))
theorem hq_127 : (e_ml[127]?).map (·.2.1) = some method_27_code := rfl
theorem ho_127 : (e_ml[127]?).map (·.1.cls) = some "PlateroomprinterLaw" := rfl
theorem hr_127 : (e_ml[127]?).map (·.2.2.2) = some (some .int) := rfl
noncomputable def n_127_16 : e_Y := u_retI
theorem t_127_16 : e_Sn 127 16 (e_un n_127_16) := u_retIT (s_iret hq_127 hr_127 (by decide +kernel) : e_Sn 127 16 (o_ret e_okI))
noncomputable def n_127_15 : e_Y := u_push (.inl 2147483648) n_127_16
theorem t_127_15 : e_Sn 127 15 (e_un n_127_15) := u_pushT (s_iconst (n := (0)) hq_127 (by decide +kernel) rfl ⟨by decide +kernel, by decide +kernel⟩ : e_Sn 127 15 (o_push (.inl 2147483648) 16)) t_127_16
noncomputable def n_127_14 : e_Y := u_retI
theorem t_127_14 : e_Sn 127 14 (e_un n_127_14) := u_retIT (s_iret hq_127 hr_127 (by decide +kernel) : e_Sn 127 14 (o_ret e_okI))
noncomputable def n_127_13 : e_Y := u_push (.inl 2147483649) n_127_14
theorem t_127_13 : e_Sn 127 13 (e_un n_127_13) := u_pushT (s_iconst (n := (1)) hq_127 (by decide +kernel) rfl ⟨by decide +kernel, by decide +kernel⟩ : e_Sn 127 13 (o_push (.inl 2147483649) 14)) t_127_14
noncomputable def n_127_12 : e_Y := u_st f_okA f_s3 n_127_13
theorem t_127_12 : e_Sn 127 12 (e_un n_127_12) := u_stAT (fun _ _ _ => f_s3_eq) (s_astore (i := .astore_n 3) (len := 1) hq_127 (by decide +kernel) rfl (.inr ⟨3, rfl, rfl, rfl⟩) : e_Sn 127 12 (o_store e_okR 3 13)) t_127_13
noncomputable def n_127_9 : e_Y := n_127_15
theorem t_127_9 : e_Sn 127 9 (e_un n_127_9) := u_gotoT (s_goto (off := (6)) hq_127 (by decide +kernel) rfl : e_Sn 127 9 (o_goto 15)) t_127_15
noncomputable def n_127_8 : e_Y := u_old (o_ast 2 e_okL 9) n_127_9
theorem t_127_8 : e_Sn 127 8 (e_un n_127_8) := u_oldT (s_last hq_127 (by decide +kernel) rfl : e_Sn 127 8 (o_ast 2 e_okL 9)) t_127_9 (e_cg_ast 2 e_okL)
noncomputable def n_127_7 : e_Y := u_old (o_i2l 8) n_127_8
theorem t_127_7 : e_Sn 127 7 (e_un n_127_7) := u_oldT (s_i2l hq_127 (by decide +kernel) rfl : e_Sn 127 7 (o_i2l 8)) t_127_8 e_congr_i2l
noncomputable def n_127_4 : e_Y := u_tab (o_callVX (e_s1 0 49 2) 2 7 [(2, 12)])
theorem t_127_4 : e_Sn 127 4 (e_un n_127_4) := u_tabT (s_callVX (ci := 0) (C := er_0) (T := et_0) (N := 17) (index := 95) hq_127 ho_127 hy_49 hp_49 hc_49 hi_49 hd_49 (List.mem_of_getElem? (i := 1719) (by decide +kernel)) hs_49 (List.mem_of_getElem? (i := 1548) (by decide +kernel)) rfl (by decide +kernel) rfl hy_127 hc_127 (e_hc1 rfl rfl (by decide) (List.mem_of_getElem? (i := 1612) (by decide +kernel)) (List.mem_of_getElem? (i := 1404) (by decide +kernel))) : e_Sn 127 4 (o_callVX (e_s1 0 49 2) 2 7 [(2, 12)]))
noncomputable def n_127_3 : e_Y := u_ld f_okI f_l1 n_127_4
theorem t_127_3 : e_Sn 127 3 (e_un n_127_3) := u_ldIT f_l1_eq (s_iload (i := .iload_n 1) (len := 1) hq_127 (by decide +kernel) rfl (.inr ⟨1, rfl, rfl, rfl⟩) : e_Sn 127 3 (o_load e_okI 1 4)) t_127_4
noncomputable def n_127_2 : e_Y := u_ld f_okA f_l0 n_127_3
theorem t_127_2 : e_Sn 127 2 (e_un n_127_2) := u_ldAT f_l0_eq (s_aload (i := .aload_n 0) (len := 1) hq_127 (by decide +kernel) rfl (.inr ⟨0, rfl, rfl, rfl⟩) : e_Sn 127 2 (o_load e_okR 0 3)) t_127_3
noncomputable def n_127_1 : e_Y := u_push (.inl 2147483648) n_127_2
theorem t_127_1 : e_Sn 127 1 (e_un n_127_1) := u_pushT (s_iconst (n := (0)) hq_127 (by decide +kernel) rfl ⟨by decide +kernel, by decide +kernel⟩ : e_Sn 127 1 (o_push (.inl 2147483648) 2)) t_127_2
noncomputable def n_127_0 : e_Y := u_ld f_okA f_l2 n_127_1
theorem t_127_0 : e_Sn 127 0 (e_un n_127_0) := u_ldAT f_l2_eq (s_aload (i := .aload_n 2) (len := 1) hq_127 (by decide +kernel) rfl (.inr ⟨2, rfl, rfl, rfl⟩) : e_Sn 127 0 (o_load e_okR 2 1)) t_127_1
noncomputable def e_tb_127 : e_X := (e_br 7 (e_lf 0 (e_un n_127_0)) (e_br 12 (e_lf 7 (e_un n_127_7)) (e_lf 12 (e_un n_127_12))))
theorem e_tk_127 : e_Tb 127 e_tb_127 := (e_brT (e_lfT t_127_0) (e_brT (e_lfT t_127_7) (e_lfT t_127_12)))
theorem hq_128 : (e_ml[128]?).map (·.2.1) = some method_12_code := rfl
theorem ho_128 : (e_ml[128]?).map (·.1.cls) = some "PlateroomprinterLaw" := rfl
theorem hr_128 : (e_ml[128]?).map (·.2.2.2) = some (some .int) := rfl
noncomputable def n_128_16 : e_Y := u_retI
theorem t_128_16 : e_Sn 128 16 (e_un n_128_16) := u_retIT (s_iret hq_128 hr_128 (by decide +kernel) : e_Sn 128 16 (o_ret e_okI))
noncomputable def n_128_15 : e_Y := u_push (.inl 2147483648) n_128_16
theorem t_128_15 : e_Sn 128 15 (e_un n_128_15) := u_pushT (s_iconst (n := (0)) hq_128 (by decide +kernel) rfl ⟨by decide +kernel, by decide +kernel⟩ : e_Sn 128 15 (o_push (.inl 2147483648) 16)) t_128_16
noncomputable def n_128_14 : e_Y := u_retI
theorem t_128_14 : e_Sn 128 14 (e_un n_128_14) := u_retIT (s_iret hq_128 hr_128 (by decide +kernel) : e_Sn 128 14 (o_ret e_okI))
noncomputable def n_128_13 : e_Y := u_push (.inl 2147483649) n_128_14
theorem t_128_13 : e_Sn 128 13 (e_un n_128_13) := u_pushT (s_iconst (n := (1)) hq_128 (by decide +kernel) rfl ⟨by decide +kernel, by decide +kernel⟩ : e_Sn 128 13 (o_push (.inl 2147483649) 14)) t_128_14
noncomputable def n_128_12 : e_Y := u_st f_okA f_s3 n_128_13
theorem t_128_12 : e_Sn 128 12 (e_un n_128_12) := u_stAT (fun _ _ _ => f_s3_eq) (s_astore (i := .astore_n 3) (len := 1) hq_128 (by decide +kernel) rfl (.inr ⟨3, rfl, rfl, rfl⟩) : e_Sn 128 12 (o_store e_okR 3 13)) t_128_13
noncomputable def n_128_9 : e_Y := n_128_15
theorem t_128_9 : e_Sn 128 9 (e_un n_128_9) := u_gotoT (s_goto (off := (6)) hq_128 (by decide +kernel) rfl : e_Sn 128 9 (o_goto 15)) t_128_15
noncomputable def n_128_8 : e_Y := u_old (o_ast 2 e_okL 9) n_128_9
theorem t_128_8 : e_Sn 128 8 (e_un n_128_8) := u_oldT (s_last hq_128 (by decide +kernel) rfl : e_Sn 128 8 (o_ast 2 e_okL 9)) t_128_9 (e_cg_ast 2 e_okL)
noncomputable def n_128_7 : e_Y := u_old (o_i2l 8) n_128_8
theorem t_128_7 : e_Sn 128 7 (e_un n_128_7) := u_oldT (s_i2l hq_128 (by decide +kernel) rfl : e_Sn 128 7 (o_i2l 8)) t_128_8 e_congr_i2l
noncomputable def n_128_4 : e_Y := u_tab (o_callVX (e_s1 0 51 3) 2 7 [(0, 12)])
theorem t_128_4 : e_Sn 128 4 (e_un n_128_4) := u_tabT (s_callVX (ci := 0) (C := er_0) (T := et_0) (N := 17) (index := 46) hq_128 ho_128 hy_51 hp_51 hc_51 hi_51 hd_51 (List.mem_of_getElem? (i := 1637) (by decide +kernel)) hs_51 (List.mem_of_getElem? (i := 1497) (by decide +kernel)) rfl (by decide +kernel) rfl hy_128 hc_128 (e_hc1 rfl rfl (by decide) (List.mem_of_getElem? (i := 1564) (by decide +kernel)) (List.mem_of_getElem? (i := 1296) (by decide +kernel))) : e_Sn 128 4 (o_callVX (e_s1 0 51 3) 2 7 [(0, 12)]))
noncomputable def n_128_3 : e_Y := u_ld f_okI f_l1 n_128_4
theorem t_128_3 : e_Sn 128 3 (e_un n_128_3) := u_ldIT f_l1_eq (s_iload (i := .iload_n 1) (len := 1) hq_128 (by decide +kernel) rfl (.inr ⟨1, rfl, rfl, rfl⟩) : e_Sn 128 3 (o_load e_okI 1 4)) t_128_4
noncomputable def n_128_2 : e_Y := u_ld f_okA f_l0 n_128_3
theorem t_128_2 : e_Sn 128 2 (e_un n_128_2) := u_ldAT f_l0_eq (s_aload (i := .aload_n 0) (len := 1) hq_128 (by decide +kernel) rfl (.inr ⟨0, rfl, rfl, rfl⟩) : e_Sn 128 2 (o_load e_okR 0 3)) t_128_3
noncomputable def n_128_1 : e_Y := u_push (.inl 2147483648) n_128_2
theorem t_128_1 : e_Sn 128 1 (e_un n_128_1) := u_pushT (s_iconst (n := (0)) hq_128 (by decide +kernel) rfl ⟨by decide +kernel, by decide +kernel⟩ : e_Sn 128 1 (o_push (.inl 2147483648) 2)) t_128_2
noncomputable def n_128_0 : e_Y := u_ld f_okA f_l2 n_128_1
theorem t_128_0 : e_Sn 128 0 (e_un n_128_0) := u_ldAT f_l2_eq (s_aload (i := .aload_n 2) (len := 1) hq_128 (by decide +kernel) rfl (.inr ⟨2, rfl, rfl, rfl⟩) : e_Sn 128 0 (o_load e_okR 2 1)) t_128_1
noncomputable def e_tb_128 : e_X := (e_br 7 (e_lf 0 (e_un n_128_0)) (e_br 12 (e_lf 7 (e_un n_128_7)) (e_lf 12 (e_un n_128_12))))
theorem e_tk_128 : e_Tb 128 e_tb_128 := (e_brT (e_lfT t_128_0) (e_brT (e_lfT t_128_7) (e_lfT t_128_12)))
theorem hq_129 : (e_ml[129]?).map (·.2.1) = some method_4_code := rfl
theorem ho_129 : (e_ml[129]?).map (·.1.cls) = some "PlateroomprinterLaw" := rfl
theorem hr_129 : (e_ml[129]?).map (·.2.2.2) = some (some .int) := rfl
noncomputable def n_129_30 : e_Y := u_retI
theorem t_129_30 : e_Sn 129 30 (e_un n_129_30) := u_retIT (s_iret hq_129 hr_129 (by decide +kernel) : e_Sn 129 30 (o_ret e_okI))
noncomputable def n_129_29 : e_Y := u_push (.inl 2147483648) n_129_30
theorem t_129_29 : e_Sn 129 29 (e_un n_129_29) := u_pushT (s_iconst (n := (0)) hq_129 (by decide +kernel) rfl ⟨by decide +kernel, by decide +kernel⟩ : e_Sn 129 29 (o_push (.inl 2147483648) 30)) t_129_30
noncomputable def n_129_24 : e_Y := u_retI
theorem t_129_24 : e_Sn 129 24 (e_un n_129_24) := u_retIT (s_iret hq_129 hr_129 (by decide +kernel) : e_Sn 129 24 (o_ret e_okI))
noncomputable def n_129_23 : e_Y := u_push (.inl 2147483649) n_129_24
theorem t_129_23 : e_Sn 129 23 (e_un n_129_23) := u_pushT (s_iconst (n := (1)) hq_129 (by decide +kernel) rfl ⟨by decide +kernel, by decide +kernel⟩ : e_Sn 129 23 (o_push (.inl 2147483649) 24)) t_129_24
noncomputable def n_129_21 : e_Y := u_st f_okA f_s8 n_129_23
theorem t_129_21 : e_Sn 129 21 (e_un n_129_21) := u_stAT (fun _ _ _ => f_s8_eq) (s_astore (i := .astore 8) (len := 2) hq_129 (by decide +kernel) rfl (.inl ⟨rfl, rfl⟩) : e_Sn 129 21 (o_store e_okR 8 23)) t_129_23
noncomputable def n_129_18 : e_Y := n_129_29
theorem t_129_18 : e_Sn 129 18 (e_un n_129_18) := u_gotoT (s_goto (off := (11)) hq_129 (by decide +kernel) rfl : e_Sn 129 18 (o_goto 29)) t_129_29
noncomputable def n_129_17 : e_Y := u_old (o_ast 2 e_okL 18) n_129_18
theorem t_129_17 : e_Sn 129 17 (e_un n_129_17) := u_oldT (s_last hq_129 (by decide +kernel) rfl : e_Sn 129 17 (o_ast 2 e_okL 18)) t_129_18 (e_cg_ast 2 e_okL)
noncomputable def n_129_16 : e_Y := u_old (o_i2l 17) n_129_17
theorem t_129_16 : e_Sn 129 16 (e_un n_129_16) := u_oldT (s_i2l hq_129 (by decide +kernel) rfl : e_Sn 129 16 (o_i2l 17)) t_129_17 e_congr_i2l
noncomputable def n_129_13 : e_Y := u_tab (o_callVX (e_s1 0 53 7) 7 16 [(0, 21), (1, 25)])
theorem t_129_13 : e_Sn 129 13 (e_un n_129_13) := u_tabT (s_callVX (ci := 0) (C := er_0) (T := et_0) (N := 17) (index := 17) hq_129 ho_129 hy_53 hp_53 hc_53 hi_53 hd_53 (List.mem_of_getElem? (i := 1597) (by decide +kernel)) hs_53 (List.mem_of_getElem? (i := 1599) (by decide +kernel)) rfl (by decide +kernel) rfl hy_129 hc_129 (e_hc2 rfl rfl (by decide) (List.mem_of_getElem? (i := 1564) (by decide +kernel)) (List.mem_of_getElem? (i := 1296) (by decide +kernel)) rfl rfl (by decide) (List.mem_of_getElem? (i := 1565) (by decide +kernel)) (List.mem_of_getElem? (i := 1576) (by decide +kernel)) (by simp [e_nc])) : e_Sn 129 13 (o_callVX (e_s1 0 53 7) 7 16 [(0, 21), (1, 25)]))
noncomputable def n_129_11 : e_Y := u_ld f_okI f_l6 n_129_13
theorem t_129_11 : e_Sn 129 11 (e_un n_129_11) := u_ldIT f_l6_eq (s_iload (i := .iload 6) (len := 2) hq_129 (by decide +kernel) rfl (.inl ⟨rfl, rfl⟩) : e_Sn 129 11 (o_load e_okI 6 13)) t_129_13
noncomputable def n_129_9 : e_Y := u_ld f_okI f_l5 n_129_11
theorem t_129_9 : e_Sn 129 9 (e_un n_129_9) := u_ldIT f_l5_eq (s_iload (i := .iload 5) (len := 2) hq_129 (by decide +kernel) rfl (.inl ⟨rfl, rfl⟩) : e_Sn 129 9 (o_load e_okI 5 11)) t_129_11
noncomputable def n_129_7 : e_Y := u_ld f_okI f_l4 n_129_9
theorem t_129_7 : e_Sn 129 7 (e_un n_129_7) := u_ldIT f_l4_eq (s_iload (i := .iload 4) (len := 2) hq_129 (by decide +kernel) rfl (.inl ⟨rfl, rfl⟩) : e_Sn 129 7 (o_load e_okI 4 9)) t_129_9
noncomputable def n_129_6 : e_Y := u_ld f_okI f_l3 n_129_7
theorem t_129_6 : e_Sn 129 6 (e_un n_129_6) := u_ldIT f_l3_eq (s_iload (i := .iload_n 3) (len := 1) hq_129 (by decide +kernel) rfl (.inr ⟨3, rfl, rfl, rfl⟩) : e_Sn 129 6 (o_load e_okI 3 7)) t_129_7
noncomputable def n_129_5 : e_Y := u_ld f_okI f_l2 n_129_6
theorem t_129_5 : e_Sn 129 5 (e_un n_129_5) := u_ldIT f_l2_eq (s_iload (i := .iload_n 2) (len := 1) hq_129 (by decide +kernel) rfl (.inr ⟨2, rfl, rfl, rfl⟩) : e_Sn 129 5 (o_load e_okI 2 6)) t_129_6
noncomputable def n_129_4 : e_Y := u_ld f_okI f_l1 n_129_5
theorem t_129_4 : e_Sn 129 4 (e_un n_129_4) := u_ldIT f_l1_eq (s_iload (i := .iload_n 1) (len := 1) hq_129 (by decide +kernel) rfl (.inr ⟨1, rfl, rfl, rfl⟩) : e_Sn 129 4 (o_load e_okI 1 5)) t_129_5
noncomputable def n_129_3 : e_Y := u_ld f_okA f_l0 n_129_4
theorem t_129_3 : e_Sn 129 3 (e_un n_129_3) := u_ldAT f_l0_eq (s_aload (i := .aload_n 0) (len := 1) hq_129 (by decide +kernel) rfl (.inr ⟨0, rfl, rfl, rfl⟩) : e_Sn 129 3 (o_load e_okR 0 4)) t_129_4
noncomputable def n_129_2 : e_Y := u_push (.inl 2147483648) n_129_3
theorem t_129_2 : e_Sn 129 2 (e_un n_129_2) := u_pushT (s_iconst (n := (0)) hq_129 (by decide +kernel) rfl ⟨by decide +kernel, by decide +kernel⟩ : e_Sn 129 2 (o_push (.inl 2147483648) 3)) t_129_3
noncomputable def n_129_0 : e_Y := u_ld f_okA f_l7 n_129_2
theorem t_129_0 : e_Sn 129 0 (e_un n_129_0) := u_ldAT f_l7_eq (s_aload (i := .aload 7) (len := 2) hq_129 (by decide +kernel) rfl (.inl ⟨rfl, rfl⟩) : e_Sn 129 0 (o_load e_okR 7 2)) t_129_2
noncomputable def e_tb_129 : e_X := (e_br 16 (e_lf 0 (e_un n_129_0)) (e_br 21 (e_lf 16 (e_un n_129_16)) (e_lf 21 (e_un n_129_21))))
theorem e_tk_129 : e_Tb 129 e_tb_129 := (e_brT (e_lfT t_129_0) (e_brT (e_lfT t_129_16) (e_lfT t_129_21)))
theorem hq_130 : (e_ml[130]?).map (·.2.1) = some method_3_code := rfl
theorem ho_130 : (e_ml[130]?).map (·.1.cls) = some "PlateroomprinterLaw" := rfl
theorem hr_130 : (e_ml[130]?).map (·.2.2.2) = some (some .int) := rfl
noncomputable def n_130_22 : e_Y := u_retI
theorem t_130_22 : e_Sn 130 22 (e_un n_130_22) := u_retIT (s_iret hq_130 hr_130 (by decide +kernel) : e_Sn 130 22 (o_ret e_okI))
noncomputable def n_130_21 : e_Y := u_push (.inl 2147483648) n_130_22
theorem t_130_21 : e_Sn 130 21 (e_un n_130_21) := u_pushT (s_iconst (n := (0)) hq_130 (by decide +kernel) rfl ⟨by decide +kernel, by decide +kernel⟩ : e_Sn 130 21 (o_push (.inl 2147483648) 22)) t_130_22
noncomputable def n_130_16 : e_Y := u_retI
theorem t_130_16 : e_Sn 130 16 (e_un n_130_16) := u_retIT (s_iret hq_130 hr_130 (by decide +kernel) : e_Sn 130 16 (o_ret e_okI))
noncomputable def n_130_15 : e_Y := u_push (.inl 2147483649) n_130_16
theorem t_130_15 : e_Sn 130 15 (e_un n_130_15) := u_pushT (s_iconst (n := (1)) hq_130 (by decide +kernel) rfl ⟨by decide +kernel, by decide +kernel⟩ : e_Sn 130 15 (o_push (.inl 2147483649) 16)) t_130_16
noncomputable def n_130_13 : e_Y := u_st f_okA f_s4 n_130_15
theorem t_130_13 : e_Sn 130 13 (e_un n_130_13) := u_stAT (fun _ _ _ => f_s4_eq) (s_astore (i := .astore 4) (len := 2) hq_130 (by decide +kernel) rfl (.inl ⟨rfl, rfl⟩) : e_Sn 130 13 (o_store e_okR 4 15)) t_130_15
noncomputable def n_130_10 : e_Y := n_130_21
theorem t_130_10 : e_Sn 130 10 (e_un n_130_10) := u_gotoT (s_goto (off := (11)) hq_130 (by decide +kernel) rfl : e_Sn 130 10 (o_goto 21)) t_130_21
noncomputable def n_130_9 : e_Y := u_old (o_ast 2 e_okL 10) n_130_10
theorem t_130_9 : e_Sn 130 9 (e_un n_130_9) := u_oldT (s_last hq_130 (by decide +kernel) rfl : e_Sn 130 9 (o_ast 2 e_okL 10)) t_130_10 (e_cg_ast 2 e_okL)
noncomputable def n_130_8 : e_Y := u_old (o_i2l 9) n_130_9
theorem t_130_8 : e_Sn 130 8 (e_un n_130_8) := u_oldT (s_i2l hq_130 (by decide +kernel) rfl : e_Sn 130 8 (o_i2l 9)) t_130_9 e_congr_i2l
noncomputable def n_130_5 : e_Y := u_tab (o_callVX (e_s1 0 54 3) 3 8 [(0, 13), (1, 17)])
theorem t_130_5 : e_Sn 130 5 (e_un n_130_5) := u_tabT (s_callVX (ci := 0) (C := er_0) (T := et_0) (N := 17) (index := 7) hq_130 ho_130 hy_54 hp_54 hc_54 hi_54 hd_54 (List.mem_of_getElem? (i := 1566) (by decide +kernel)) hs_54 (List.mem_of_getElem? (i := 1568) (by decide +kernel)) rfl (by decide +kernel) rfl hy_130 hc_130 (e_hc2 rfl rfl (by decide) (List.mem_of_getElem? (i := 1564) (by decide +kernel)) (List.mem_of_getElem? (i := 1296) (by decide +kernel)) rfl rfl (by decide) (List.mem_of_getElem? (i := 1565) (by decide +kernel)) (List.mem_of_getElem? (i := 1576) (by decide +kernel)) (by simp [e_nc])) : e_Sn 130 5 (o_callVX (e_s1 0 54 3) 3 8 [(0, 13), (1, 17)]))
noncomputable def n_130_4 : e_Y := u_ld f_okI f_l2 n_130_5
theorem t_130_4 : e_Sn 130 4 (e_un n_130_4) := u_ldIT f_l2_eq (s_iload (i := .iload_n 2) (len := 1) hq_130 (by decide +kernel) rfl (.inr ⟨2, rfl, rfl, rfl⟩) : e_Sn 130 4 (o_load e_okI 2 5)) t_130_5
noncomputable def n_130_3 : e_Y := u_ld f_okI f_l1 n_130_4
theorem t_130_3 : e_Sn 130 3 (e_un n_130_3) := u_ldIT f_l1_eq (s_iload (i := .iload_n 1) (len := 1) hq_130 (by decide +kernel) rfl (.inr ⟨1, rfl, rfl, rfl⟩) : e_Sn 130 3 (o_load e_okI 1 4)) t_130_4
noncomputable def n_130_2 : e_Y := u_ld f_okA f_l0 n_130_3
theorem t_130_2 : e_Sn 130 2 (e_un n_130_2) := u_ldAT f_l0_eq (s_aload (i := .aload_n 0) (len := 1) hq_130 (by decide +kernel) rfl (.inr ⟨0, rfl, rfl, rfl⟩) : e_Sn 130 2 (o_load e_okR 0 3)) t_130_3
noncomputable def n_130_1 : e_Y := u_push (.inl 2147483648) n_130_2
theorem t_130_1 : e_Sn 130 1 (e_un n_130_1) := u_pushT (s_iconst (n := (0)) hq_130 (by decide +kernel) rfl ⟨by decide +kernel, by decide +kernel⟩ : e_Sn 130 1 (o_push (.inl 2147483648) 2)) t_130_2
noncomputable def n_130_0 : e_Y := u_ld f_okA f_l3 n_130_1
theorem t_130_0 : e_Sn 130 0 (e_un n_130_0) := u_ldAT f_l3_eq (s_aload (i := .aload_n 3) (len := 1) hq_130 (by decide +kernel) rfl (.inr ⟨3, rfl, rfl, rfl⟩) : e_Sn 130 0 (o_load e_okR 3 1)) t_130_1
noncomputable def e_tb_130 : e_X := (e_br 8 (e_lf 0 (e_un n_130_0)) (e_br 13 (e_lf 8 (e_un n_130_8)) (e_lf 13 (e_un n_130_13))))
theorem e_tk_130 : e_Tb 130 e_tb_130 := (e_brT (e_lfT t_130_0) (e_brT (e_lfT t_130_8) (e_lfT t_130_13)))
end SN
