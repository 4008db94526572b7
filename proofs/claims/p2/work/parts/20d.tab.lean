/-! TABLES, by program -/
section SN
theorem hq_103 : (e_ml[103]?).map (·.2.1) = some prog_50_method_25_code := rfl
theorem ho_103 : (e_ml[103]?).map (·.1.cls) = some "java/util/ArrayList" := rfl
theorem hr_103 : (e_ml[103]?).map (·.2.2.2) = some (some .boolean) := rfl
noncomputable def n_103_24 : e_Y := u_tab (o_ret e_okZ)
theorem t_103_24 : e_Sn 103 24 (e_un n_103_24) := u_tabT (s_zret hq_103 hr_103 (by decide +kernel) : e_Sn 103 24 (o_ret e_okZ))
noncomputable def n_103_23 : e_Y := u_push (.inl 2147483649) n_103_24
theorem t_103_23 : e_Sn 103 23 (e_un n_103_23) := u_pushT (s_iconst (n := (1)) hq_103 (by decide +kernel) rfl ⟨by decide +kernel, by decide +kernel⟩ : e_Sn 103 23 (o_push (.inl 2147483649) 24)) t_103_24
noncomputable def n_103_20 : e_Y := u_callV 19 104 4 23 4 n_104_0 n_103_23
theorem t_103_20 : e_Sn 103 20 (e_un n_103_20) := u_callVT rfl (s_callV (ci := 19) (C := er_19) (T := et_19) (N := 3) (index := 131) hq_103 ho_103 hy_104 hp_104 hc_104 hi_104 hd_104 (List.mem_of_getElem? (i := 1824) (by decide +kernel)) hs_104 (List.mem_of_getElem? (i := 70) (by decide +kernel)) rfl (by decide +kernel) rfl : e_Sn 103 20 (o_callV (e_s1 19 104 4) 4 23)) t_104_0 t_103_23
noncomputable def n_103_17 : e_Y := u_getf 19 1 (u_old (o_getf (e_f1 19 1) 20) n_103_20) n_103_20
theorem t_103_17 : e_Sn 103 17 (e_un n_103_17) := u_getfT (s_getf (C := er_19) (T := et_19) (N := 3) (ref := "java/util/ArrayList") (index := 48) (ci := 19) (k := 1) hq_103 ho_103 ⟨rfl, by decide, ei_19, (List.mem_of_getElem? (i := 1767) (by decide +kernel)), .inl rfl⟩ (by decide +kernel) rfl : e_Sn 103 17 (o_getf (e_f1 19 1) 20)) t_103_20
noncomputable def n_103_16 : e_Y := u_ld f_okA f_l0 n_103_17
theorem t_103_16 : e_Sn 103 16 (e_un n_103_16) := u_ldAT f_l0_eq (s_aload (i := .aload_n 0) (len := 1) hq_103 (by decide +kernel) rfl (.inr ⟨0, rfl, rfl, rfl⟩) : e_Sn 103 16 (o_load e_okR 0 17)) t_103_17
noncomputable def n_103_13 : e_Y := u_getf 19 0 (u_old (o_getf (e_f1 19 0) 16) n_103_16) n_103_16
theorem t_103_13 : e_Sn 103 13 (e_un n_103_13) := u_getfT (s_getf (C := er_19) (T := et_19) (N := 3) (ref := "java/util/ArrayList") (index := 9) (ci := 19) (k := 0) hq_103 ho_103 ⟨rfl, by decide, ei_19, (List.mem_of_getElem? (i := 1764) (by decide +kernel)), .inl rfl⟩ (by decide +kernel) rfl : e_Sn 103 13 (o_getf (e_f1 19 0) 16)) t_103_16
noncomputable def n_103_12 : e_Y := u_ld f_okA f_l0 n_103_13
theorem t_103_12 : e_Sn 103 12 (e_un n_103_12) := u_ldAT f_l0_eq (s_aload (i := .aload_n 0) (len := 1) hq_103 (by decide +kernel) rfl (.inr ⟨0, rfl, rfl, rfl⟩) : e_Sn 103 12 (o_load e_okR 0 13)) t_103_13
noncomputable def n_103_11 : e_Y := u_ld f_okA f_l1 n_103_12
theorem t_103_11 : e_Sn 103 11 (e_un n_103_11) := u_ldAT f_l1_eq (s_aload (i := .aload_n 1) (len := 1) hq_103 (by decide +kernel) rfl (.inr ⟨1, rfl, rfl, rfl⟩) : e_Sn 103 11 (o_load e_okR 1 12)) t_103_12
noncomputable def n_103_10 : e_Y := u_ld f_okA f_l0 n_103_11
theorem t_103_10 : e_Sn 103 10 (e_un n_103_10) := u_ldAT f_l0_eq (s_aload (i := .aload_n 0) (len := 1) hq_103 (by decide +kernel) rfl (.inr ⟨0, rfl, rfl, rfl⟩) : e_Sn 103 10 (o_load e_okR 0 11)) t_103_11
noncomputable def n_103_7 : e_Y := u_old (o_putf (e_f1 19 2) e_okI 10) n_103_10
theorem t_103_7 : e_Sn 103 7 (e_un n_103_7) := u_oldT (s_putf (ty0 := ey_19) (ok := e_okI) (C := er_19) (T := et_19) (N := 3) (ref := "java/util/ArrayList") (index := 63) (ci := 19) (k := 2) hq_103 ho_103 ⟨rfl, by decide, ei_19, (List.mem_of_getElem? (i := 1771) (by decide +kernel)), .inr (List.mem_of_getElem? (i := 1770) (by decide +kernel))⟩ eo_19 en_19 e_oksI (.inl rfl) (by decide +kernel) rfl : e_Sn 103 7 (o_putf (e_f1 19 2) e_okI 10)) t_103_10 (e_cg_putf (e_f1 19 2) e_okI)
noncomputable def n_103_6 : e_Y := u_bin a_iadd (u_old (o_iadd 7) n_103_7) n_103_7
theorem t_103_6 : e_Sn 103 6 (e_un n_103_6) := u_iaddT (s_iadd hq_103 (by decide +kernel) rfl : e_Sn 103 6 (o_iadd 7)) t_103_7
noncomputable def n_103_5 : e_Y := u_push (.inl 2147483649) n_103_6
theorem t_103_5 : e_Sn 103 5 (e_un n_103_5) := u_pushT (s_iconst (n := (1)) hq_103 (by decide +kernel) rfl ⟨by decide +kernel, by decide +kernel⟩ : e_Sn 103 5 (o_push (.inl 2147483649) 6)) t_103_6
noncomputable def n_103_2 : e_Y := u_getf 19 2 (u_old (o_getf (e_f1 19 2) 5) n_103_5) n_103_5
theorem t_103_2 : e_Sn 103 2 (e_un n_103_2) := u_getfT (s_getf (C := er_19) (T := et_19) (N := 3) (ref := "java/util/ArrayList") (index := 63) (ci := 19) (k := 2) hq_103 ho_103 ⟨rfl, by decide, ei_19, (List.mem_of_getElem? (i := 1771) (by decide +kernel)), .inr (List.mem_of_getElem? (i := 1770) (by decide +kernel))⟩ (by decide +kernel) rfl : e_Sn 103 2 (o_getf (e_f1 19 2) 5)) t_103_5
noncomputable def n_103_1 : e_Y := u_old (o_dup 2) n_103_2
theorem t_103_1 : e_Sn 103 1 (e_un n_103_1) := u_oldT (s_dup hq_103 (by decide +kernel) rfl : e_Sn 103 1 (o_dup 2)) t_103_2 e_cg_dup
noncomputable def n_103_0 : e_Y := u_ld f_okA f_l0 n_103_1
theorem t_103_0 : e_Sn 103 0 (e_un n_103_0) := u_ldAT f_l0_eq (s_aload (i := .aload_n 0) (len := 1) hq_103 (by decide +kernel) rfl (.inr ⟨0, rfl, rfl, rfl⟩) : e_Sn 103 0 (o_load e_okR 0 1)) t_103_1
noncomputable def e_tb_103 : e_X := (e_lf 0 (e_un n_103_0))
theorem e_tk_103 : e_Tb 103 e_tb_103 := (e_lfT t_103_0)
theorem hq_72 : (e_ml[72]?).map (·.2.1) = some prog_17_method_1_code := rfl
theorem ho_72 : (e_ml[72]?).map (·.1.cls) = some "PlateroomprinterModel$Machine" := rfl
theorem hr_72 : (e_ml[72]?).map (·.2.2.2) = some none := rfl
noncomputable def n_72_107 : e_Y := u_tab (o_retv)
theorem t_72_107 : e_Sn 72 107 (e_un n_72_107) := u_tabT (s_vret hq_72 hr_72 (by decide +kernel) : e_Sn 72 107 (o_retv))
noncomputable def n_72_104 : e_Y := (u_at 87)
theorem t_72_104 : e_Sn 72 104 (e_un n_72_104) := u_gotoT (s_goto (off := (-17)) hq_72 (by decide +kernel) rfl : e_Sn 72 104 (o_goto 87)) u_atT
noncomputable def n_72_101 : e_Y := u_inc f_l1 f_s1 1 n_72_104
theorem t_72_101 : e_Sn 72 101 (e_un n_72_101) := u_incT f_l1_eq (fun _ _ _ => f_s1_eq) (s_iinc (zz := (1)) hq_72 (by decide +kernel) rfl (by decide +kernel) ⟨by decide, by decide⟩ : e_Sn 72 101 (o_iinc 1 1 104)) t_72_104
noncomputable def n_72_100 : e_Y := u_pop n_72_101
theorem t_72_100 : e_Sn 72 100 (e_un n_72_100) := u_popT (s_pop hq_72 (by decide +kernel) rfl : e_Sn 72 100 (o_pop 101)) t_72_101
noncomputable def n_72_97 : e_Y := u_callV 19 103 2 21 2 n_103_0 n_72_100
theorem t_72_97 : e_Sn 72 97 (e_un n_72_97) := u_callVT rfl (s_callV (ci := 19) (C := er_19) (T := et_19) (N := 3) (index := 48) hq_72 ho_72 hy_103 hp_103 hc_103 hi_103 hd_103 (List.mem_of_getElem? (i := 1820) (by decide +kernel)) hs_103 (List.mem_of_getElem? (i := 1822) (by decide +kernel)) rfl (by decide +kernel) rfl : e_Sn 72 97 (o_callV (e_s1 19 103 2) 2 100)) t_103_0 t_72_100
noncomputable def n_72_96 : e_Y := u_push e_N n_72_97
theorem t_72_96 : e_Sn 72 96 (e_un n_72_96) := u_pushT (s_null hq_72 (by decide +kernel) rfl : e_Sn 72 96 (o_push e_N 97)) t_72_97
noncomputable def n_72_93 : e_Y := u_getf 14 4 (u_old (o_getf (e_f1 14 4) 96) n_72_96) n_72_96
theorem t_72_93 : e_Sn 72 93 (e_un n_72_93) := u_getfT (s_getf (C := er_14) (T := et_14) (N := 13) (ref := "PlateroomprinterModel$Machine") (index := 34) (ci := 14) (k := 4) hq_72 ho_72 ⟨rfl, by decide, ei_14, (List.mem_of_getElem? (i := 1902) (by decide +kernel)), .inl rfl⟩ (by decide +kernel) rfl : e_Sn 72 93 (o_getf (e_f1 14 4) 96)) t_72_96
noncomputable def n_72_92 : e_Y := u_ld f_okA f_l0 n_72_93
theorem t_72_92 : e_Sn 72 92 (e_un n_72_92) := u_ldAT f_l0_eq (s_aload (i := .aload_n 0) (len := 1) hq_72 (by decide +kernel) rfl (.inr ⟨0, rfl, rfl, rfl⟩) : e_Sn 72 92 (o_load e_okR 0 93)) t_72_93
noncomputable def n_72_89 : e_Y := u_jmp y_ge (u_old2 (o_clt 92 107) 92 n_72_92 n_72_107) n_72_92 n_72_107
theorem t_72_89 : e_Sn 72 89 (e_un n_72_89) := u_cltT rfl (s_cge (off := (18)) hq_72 (by decide +kernel) rfl rfl : e_Sn 72 89 (o_clt 92 107)) t_72_92 t_72_107
noncomputable def n_72_88 : e_Y := u_push (.inl 2147483653) n_72_89
theorem t_72_88 : e_Sn 72 88 (e_un n_72_88) := u_pushT (s_iconst (n := (5)) hq_72 (by decide +kernel) rfl ⟨by decide +kernel, by decide +kernel⟩ : e_Sn 72 88 (o_push (.inl 2147483653) 89)) t_72_89
noncomputable def n_72_87 : e_Y := u_ld f_okI f_l1 n_72_88
theorem t_72_87 : e_Sn 72 87 (e_un n_72_87) := u_ldIT f_l1_eq (s_iload (i := .iload_n 1) (len := 1) hq_72 (by decide +kernel) rfl (.inr ⟨1, rfl, rfl, rfl⟩) : e_Sn 72 87 (o_load e_okI 1 88)) t_72_88
noncomputable def n_72_86 : e_Y := u_st f_okI f_s1 n_72_87
theorem t_72_86 : e_Sn 72 86 (e_un n_72_86) := u_stIT (fun _ _ _ => f_s1_eq) (s_istore (i := .istore_n 1) (len := 1) hq_72 (by decide +kernel) rfl (.inr ⟨1, rfl, rfl, rfl⟩) : e_Sn 72 86 (o_store e_okI 1 87)) t_72_87
noncomputable def n_72_85 : e_Y := u_push (.inl 2147483648) n_72_86
theorem t_72_85 : e_Sn 72 85 (e_un n_72_85) := u_pushT (s_iconst (n := (0)) hq_72 (by decide +kernel) rfl ⟨by decide +kernel, by decide +kernel⟩ : e_Sn 72 85 (o_push (.inl 2147483648) 86)) t_72_86
noncomputable def n_72_82 : e_Y := u_old (o_putf (e_f1 14 12) e_okR 85) n_72_85
theorem t_72_82 : e_Sn 72 82 (e_un n_72_82) := u_oldT (s_putf (ty0 := ey_14) (ok := e_okR) (C := er_14) (T := et_14) (N := 13) (ref := "PlateroomprinterModel$Machine") (index := 44) (ci := 14) (k := 12) hq_72 ho_72 ⟨rfl, by decide, ei_14, (List.mem_of_getElem? (i := 1926) (by decide +kernel)), .inl rfl⟩ eo_14 en_14 e_oksA (.inl rfl) (by decide +kernel) rfl : e_Sn 72 82 (o_putf (e_f1 14 12) e_okR 85)) t_72_85 (e_cg_putf (e_f1 14 12) e_okR)
noncomputable def n_72_80 : e_Y := u_tab (o_newa 0 (e_I 2147483648) 82)
theorem t_72_80 : e_Sn 72 80 (e_un n_72_80) := u_tabT (s_newI (List.mem_of_getElem? (i := 215) (by decide +kernel)) hq_72 (by decide +kernel) rfl : e_Sn 72 80 (o_newa 0 (e_I 2147483648) 82))
noncomputable def n_72_78 : e_Y := u_push (.inl 2147483701) n_72_80
theorem t_72_78 : e_Sn 72 78 (e_un n_72_78) := u_pushT (s_bipush (n := (53)) hq_72 (by decide +kernel) rfl ⟨by decide +kernel, by decide +kernel⟩ : e_Sn 72 78 (o_push (.inl 2147483701) 80)) t_72_80
noncomputable def n_72_77 : e_Y := u_ld f_okA f_l0 n_72_78
theorem t_72_77 : e_Sn 72 77 (e_un n_72_77) := u_ldAT f_l0_eq (s_aload (i := .aload_n 0) (len := 1) hq_72 (by decide +kernel) rfl (.inr ⟨0, rfl, rfl, rfl⟩) : e_Sn 72 77 (o_load e_okR 0 78)) t_72_78
noncomputable def n_72_74 : e_Y := u_old (o_putf (e_f1 14 6) e_okR 77) n_72_77
theorem t_72_74 : e_Sn 72 74 (e_un n_72_74) := u_oldT (s_putf (ty0 := ey_14) (ok := e_okR) (C := er_14) (T := et_14) (N := 13) (ref := "PlateroomprinterModel$Machine") (index := 40) (ci := 14) (k := 6) hq_72 ho_72 ⟨rfl, by decide, ei_14, (List.mem_of_getElem? (i := 1908) (by decide +kernel)), .inl rfl⟩ eo_14 en_14 e_oksA (.inl rfl) (by decide +kernel) rfl : e_Sn 72 74 (o_putf (e_f1 14 6) e_okR 77)) t_72_77 (e_cg_putf (e_f1 14 6) e_okR)
noncomputable def n_72_72 : e_Y := u_tab (o_newa 1 (e_I 2147483648) 74)
theorem t_72_72 : e_Sn 72 72 (e_un n_72_72) := u_tabT (s_newZ (List.mem_of_getElem? (i := 1819) (by decide +kernel)) hq_72 (by decide +kernel) rfl : e_Sn 72 72 (o_newa 1 (e_I 2147483648) 74))
noncomputable def n_72_69 : e_Y := u_push (.inl 2147487744) n_72_72
theorem t_72_69 : e_Sn 72 69 (e_un n_72_69) := u_pushT (s_sipush (n := (4096)) hq_72 (by decide +kernel) rfl ⟨by decide +kernel, by decide +kernel⟩ : e_Sn 72 69 (o_push (.inl 2147487744) 72)) t_72_72
noncomputable def n_72_68 : e_Y := u_ld f_okA f_l0 n_72_69
theorem t_72_68 : e_Sn 72 68 (e_un n_72_68) := u_ldAT f_l0_eq (s_aload (i := .aload_n 0) (len := 1) hq_72 (by decide +kernel) rfl (.inr ⟨0, rfl, rfl, rfl⟩) : e_Sn 72 68 (o_load e_okR 0 69)) t_72_69
noncomputable def n_72_65 : e_Y := u_old (o_putf (e_f1 14 5) e_okR 68) n_72_68
theorem t_72_65 : e_Sn 72 65 (e_un n_72_65) := u_oldT (s_putf (ty0 := ey_14) (ok := e_okR) (C := er_14) (T := et_14) (N := 13) (ref := "PlateroomprinterModel$Machine") (index := 37) (ci := 14) (k := 5) hq_72 ho_72 ⟨rfl, by decide, ei_14, (List.mem_of_getElem? (i := 1905) (by decide +kernel)), .inl rfl⟩ eo_14 en_14 e_oksR (.inl rfl) (by decide +kernel) rfl : e_Sn 72 65 (o_putf (e_f1 14 5) e_okR 68)) t_72_68 (e_cg_putf (e_f1 14 5) e_okR)
noncomputable def n_72_62 : e_Y := u_tab (o_callI 102 1 1 65)
theorem t_72_62 : e_Sn 72 62 (e_un n_72_62) := u_tabT (s_callI (index := 11) hq_72 ho_72 hy_102 hp_102 hc_102 hi_102 hd_102 (List.mem_of_getElem? (i := 1752) (by decide +kernel)) rfl rfl hs_102 (by decide +kernel) rfl : e_Sn 72 62 (o_callI 102 1 1 65))
noncomputable def n_72_61 : e_Y := u_old (o_dup 62) n_72_62
theorem t_72_61 : e_Sn 72 61 (e_un n_72_61) := u_oldT (s_dup hq_72 (by decide +kernel) rfl : e_Sn 72 61 (o_dup 62)) t_72_62 e_cg_dup
noncomputable def n_72_58 : e_Y := u_tab (o_new 19 3 ef_19 61)
theorem t_72_58 : e_Sn 72 58 (e_un n_72_58) := u_tabT (s_new (index := 9) (ci := 19) (N := 3) (C := er_19) (T := et_19) (ty0 := ey_19) (fv := eg_19) hq_72 ho_72 rfl ei_19 eo_19 (List.mem_of_getElem? (i := 1750) (by decide +kernel)) (List.mem_of_getElem? (i := 1751) (by decide +kernel)) (List.mem_of_getElem? (i := 155) (by decide +kernel)) eh_19 rfl (e_newrel ek_19) (by decide +kernel) rfl : e_Sn 72 58 (o_new 19 3 ef_19 61))
noncomputable def n_72_57 : e_Y := u_ld f_okA f_l0 n_72_58
theorem t_72_57 : e_Sn 72 57 (e_un n_72_57) := u_ldAT f_l0_eq (s_aload (i := .aload_n 0) (len := 1) hq_72 (by decide +kernel) rfl (.inr ⟨0, rfl, rfl, rfl⟩) : e_Sn 72 57 (o_load e_okR 0 58)) t_72_58
noncomputable def n_72_54 : e_Y := u_old (o_putf (e_f1 14 4) e_okR 57) n_72_57
theorem t_72_54 : e_Sn 72 54 (e_un n_72_54) := u_oldT (s_putf (ty0 := ey_14) (ok := e_okR) (C := er_14) (T := et_14) (N := 13) (ref := "PlateroomprinterModel$Machine") (index := 34) (ci := 14) (k := 4) hq_72 ho_72 ⟨rfl, by decide, ei_14, (List.mem_of_getElem? (i := 1902) (by decide +kernel)), .inl rfl⟩ eo_14 en_14 e_oksR (.inl rfl) (by decide +kernel) rfl : e_Sn 72 54 (o_putf (e_f1 14 4) e_okR 57)) t_72_57 (e_cg_putf (e_f1 14 4) e_okR)
noncomputable def n_72_51 : e_Y := u_tab (o_callI 102 1 1 54)
theorem t_72_51 : e_Sn 72 51 (e_un n_72_51) := u_tabT (s_callI (index := 11) hq_72 ho_72 hy_102 hp_102 hc_102 hi_102 hd_102 (List.mem_of_getElem? (i := 1752) (by decide +kernel)) rfl rfl hs_102 (by decide +kernel) rfl : e_Sn 72 51 (o_callI 102 1 1 54))
noncomputable def n_72_50 : e_Y := u_old (o_dup 51) n_72_51
theorem t_72_50 : e_Sn 72 50 (e_un n_72_50) := u_oldT (s_dup hq_72 (by decide +kernel) rfl : e_Sn 72 50 (o_dup 51)) t_72_51 e_cg_dup
noncomputable def n_72_47 : e_Y := u_tab (o_new 19 3 ef_19 50)
theorem t_72_47 : e_Sn 72 47 (e_un n_72_47) := u_tabT (s_new (index := 9) (ci := 19) (N := 3) (C := er_19) (T := et_19) (ty0 := ey_19) (fv := eg_19) hq_72 ho_72 rfl ei_19 eo_19 (List.mem_of_getElem? (i := 1750) (by decide +kernel)) (List.mem_of_getElem? (i := 1751) (by decide +kernel)) (List.mem_of_getElem? (i := 155) (by decide +kernel)) eh_19 rfl (e_newrel ek_19) (by decide +kernel) rfl : e_Sn 72 47 (o_new 19 3 ef_19 50))
noncomputable def n_72_46 : e_Y := u_ld f_okA f_l0 n_72_47
theorem t_72_46 : e_Sn 72 46 (e_un n_72_46) := u_ldAT f_l0_eq (s_aload (i := .aload_n 0) (len := 1) hq_72 (by decide +kernel) rfl (.inr ⟨0, rfl, rfl, rfl⟩) : e_Sn 72 46 (o_load e_okR 0 47)) t_72_47
noncomputable def n_72_43 : e_Y := u_old (o_putf (e_f1 14 3) e_okR 46) n_72_46
theorem t_72_43 : e_Sn 72 43 (e_un n_72_43) := u_oldT (s_putf (ty0 := ey_14) (ok := e_okR) (C := er_14) (T := et_14) (N := 13) (ref := "PlateroomprinterModel$Machine") (index := 31) (ci := 14) (k := 3) hq_72 ho_72 ⟨rfl, by decide, ei_14, (List.mem_of_getElem? (i := 1899) (by decide +kernel)), .inl rfl⟩ eo_14 en_14 e_oksR (.inl rfl) (by decide +kernel) rfl : e_Sn 72 43 (o_putf (e_f1 14 3) e_okR 46)) t_72_46 (e_cg_putf (e_f1 14 3) e_okR)
noncomputable def n_72_40 : e_Y := u_tab (o_callI 102 1 1 43)
theorem t_72_40 : e_Sn 72 40 (e_un n_72_40) := u_tabT (s_callI (index := 11) hq_72 ho_72 hy_102 hp_102 hc_102 hi_102 hd_102 (List.mem_of_getElem? (i := 1752) (by decide +kernel)) rfl rfl hs_102 (by decide +kernel) rfl : e_Sn 72 40 (o_callI 102 1 1 43))
noncomputable def n_72_39 : e_Y := u_old (o_dup 40) n_72_40
theorem t_72_39 : e_Sn 72 39 (e_un n_72_39) := u_oldT (s_dup hq_72 (by decide +kernel) rfl : e_Sn 72 39 (o_dup 40)) t_72_40 e_cg_dup
noncomputable def n_72_36 : e_Y := u_tab (o_new 19 3 ef_19 39)
theorem t_72_36 : e_Sn 72 36 (e_un n_72_36) := u_tabT (s_new (index := 9) (ci := 19) (N := 3) (C := er_19) (T := et_19) (ty0 := ey_19) (fv := eg_19) hq_72 ho_72 rfl ei_19 eo_19 (List.mem_of_getElem? (i := 1750) (by decide +kernel)) (List.mem_of_getElem? (i := 1751) (by decide +kernel)) (List.mem_of_getElem? (i := 155) (by decide +kernel)) eh_19 rfl (e_newrel ek_19) (by decide +kernel) rfl : e_Sn 72 36 (o_new 19 3 ef_19 39))
noncomputable def n_72_35 : e_Y := u_ld f_okA f_l0 n_72_36
theorem t_72_35 : e_Sn 72 35 (e_un n_72_35) := u_ldAT f_l0_eq (s_aload (i := .aload_n 0) (len := 1) hq_72 (by decide +kernel) rfl (.inr ⟨0, rfl, rfl, rfl⟩) : e_Sn 72 35 (o_load e_okR 0 36)) t_72_36
noncomputable def n_72_32 : e_Y := u_old (o_putf (e_f1 14 2) e_okR 35) n_72_35
theorem t_72_32 : e_Sn 72 32 (e_un n_72_32) := u_oldT (s_putf (ty0 := ey_14) (ok := e_okR) (C := er_14) (T := et_14) (N := 13) (ref := "PlateroomprinterModel$Machine") (index := 27) (ci := 14) (k := 2) hq_72 ho_72 ⟨rfl, by decide, ei_14, (List.mem_of_getElem? (i := 1896) (by decide +kernel)), .inl rfl⟩ eo_14 en_14 e_oksR (.inl rfl) (by decide +kernel) rfl : e_Sn 72 32 (o_putf (e_f1 14 2) e_okR 35)) t_72_35 (e_cg_putf (e_f1 14 2) e_okR)
noncomputable def n_72_29 : e_Y := u_tab (o_callI 96 2 1 32)
theorem t_72_29 : e_Sn 72 29 (e_un n_72_29) := u_tabT (s_callI (index := 26) hq_72 ho_72 hy_96 hp_96 hc_96 hi_96 hd_96 (List.mem_of_getElem? (i := 1783) (by decide +kernel)) rfl rfl hs_96 (by decide +kernel) rfl : e_Sn 72 29 (o_callI 96 2 1 32))
noncomputable def n_72_28 : e_Y := u_old (o_dup 29) n_72_29
theorem t_72_28 : e_Sn 72 28 (e_un n_72_28) := u_oldT (s_dup hq_72 (by decide +kernel) rfl : e_Sn 72 28 (o_dup 29)) t_72_29 e_cg_dup
noncomputable def n_72_25 : e_Y := u_tab (o_new 17 6 ef_17 28)
theorem t_72_25 : e_Sn 72 25 (e_un n_72_25) := u_tabT (s_new (index := 24) (ci := 17) (N := 6) (C := er_17) (T := et_17) (ty0 := ey_17) (fv := eg_17) hq_72 ho_72 rfl ei_17 eo_17 (List.mem_of_getElem? (i := 1781) (by decide +kernel)) (List.mem_of_getElem? (i := 1782) (by decide +kernel)) (List.mem_of_getElem? (i := 156) (by decide +kernel)) eh_17 rfl (e_newrel ek_17) (by decide +kernel) rfl : e_Sn 72 25 (o_new 17 6 ef_17 28))
noncomputable def n_72_24 : e_Y := u_ld f_okA f_l0 n_72_25
theorem t_72_24 : e_Sn 72 24 (e_un n_72_24) := u_ldAT f_l0_eq (s_aload (i := .aload_n 0) (len := 1) hq_72 (by decide +kernel) rfl (.inr ⟨0, rfl, rfl, rfl⟩) : e_Sn 72 24 (o_load e_okR 0 25)) t_72_25
noncomputable def n_72_21 : e_Y := u_old (o_putf (e_f1 14 1) e_okR 24) n_72_24
theorem t_72_21 : e_Sn 72 21 (e_un n_72_21) := u_oldT (s_putf (ty0 := ey_14) (ok := e_okR) (C := er_14) (T := et_14) (N := 13) (ref := "PlateroomprinterModel$Machine") (index := 20) (ci := 14) (k := 1) hq_72 ho_72 ⟨rfl, by decide, ei_14, (List.mem_of_getElem? (i := 1893) (by decide +kernel)), .inl rfl⟩ eo_14 en_14 e_oksA (.inl rfl) (by decide +kernel) rfl : e_Sn 72 21 (o_putf (e_f1 14 1) e_okR 24)) t_72_24 (e_cg_putf (e_f1 14 1) e_okR)
noncomputable def n_72_18 : e_Y := u_tab (o_newa 6 e_N 21)
theorem t_72_18 : e_Sn 72 18 (e_un n_72_18) := u_tabT (s_newR (tc := 3) (index := 18) (E := "PlateroomprinterModel$Item") rfl ho_72 (List.mem_of_getElem? (i := 1779) (by decide +kernel)) (fun s h => h _ (List.mem_filter.mpr ⟨(List.mem_of_getElem? (i := 1780) (by decide +kernel)), rfl⟩)) hq_72 (by decide +kernel) rfl : e_Sn 72 18 (o_newa 6 e_N 21))
noncomputable def n_72_16 : e_Y := u_push (.inl 2147483658) n_72_18
theorem t_72_16 : e_Sn 72 16 (e_un n_72_16) := u_pushT (s_bipush (n := (10)) hq_72 (by decide +kernel) rfl ⟨by decide +kernel, by decide +kernel⟩ : e_Sn 72 16 (o_push (.inl 2147483658) 18)) t_72_18
noncomputable def n_72_15 : e_Y := u_ld f_okA f_l0 n_72_16
theorem t_72_15 : e_Sn 72 15 (e_un n_72_15) := u_ldAT f_l0_eq (s_aload (i := .aload_n 0) (len := 1) hq_72 (by decide +kernel) rfl (.inr ⟨0, rfl, rfl, rfl⟩) : e_Sn 72 15 (o_load e_okR 0 16)) t_72_16
noncomputable def n_72_12 : e_Y := u_old (o_putf (e_f1 14 0) e_okR 15) n_72_15
theorem t_72_12 : e_Sn 72 12 (e_un n_72_12) := u_oldT (s_putf (ty0 := ey_14) (ok := e_okR) (C := er_14) (T := et_14) (N := 13) (ref := "PlateroomprinterModel$Machine") (index := 12) (ci := 14) (k := 0) hq_72 ho_72 ⟨rfl, by decide, ei_14, (List.mem_of_getElem? (i := 1890) (by decide +kernel)), .inl rfl⟩ eo_14 en_14 e_oksR (.inl rfl) (by decide +kernel) rfl : e_Sn 72 12 (o_putf (e_f1 14 0) e_okR 15)) t_72_15 (e_cg_putf (e_f1 14 0) e_okR)
noncomputable def n_72_9 : e_Y := u_tab (o_callI 102 1 1 12)
theorem t_72_9 : e_Sn 72 9 (e_un n_72_9) := u_tabT (s_callI (index := 11) hq_72 ho_72 hy_102 hp_102 hc_102 hi_102 hd_102 (List.mem_of_getElem? (i := 1752) (by decide +kernel)) rfl rfl hs_102 (by decide +kernel) rfl : e_Sn 72 9 (o_callI 102 1 1 12))
noncomputable def n_72_8 : e_Y := u_old (o_dup 9) n_72_9
theorem t_72_8 : e_Sn 72 8 (e_un n_72_8) := u_oldT (s_dup hq_72 (by decide +kernel) rfl : e_Sn 72 8 (o_dup 9)) t_72_9 e_cg_dup
noncomputable def n_72_5 : e_Y := u_tab (o_new 19 3 ef_19 8)
theorem t_72_5 : e_Sn 72 5 (e_un n_72_5) := u_tabT (s_new (index := 9) (ci := 19) (N := 3) (C := er_19) (T := et_19) (ty0 := ey_19) (fv := eg_19) hq_72 ho_72 rfl ei_19 eo_19 (List.mem_of_getElem? (i := 1750) (by decide +kernel)) (List.mem_of_getElem? (i := 1751) (by decide +kernel)) (List.mem_of_getElem? (i := 155) (by decide +kernel)) eh_19 rfl (e_newrel ek_19) (by decide +kernel) rfl : e_Sn 72 5 (o_new 19 3 ef_19 8))
noncomputable def n_72_4 : e_Y := u_ld f_okA f_l0 n_72_5
theorem t_72_4 : e_Sn 72 4 (e_un n_72_4) := u_ldAT f_l0_eq (s_aload (i := .aload_n 0) (len := 1) hq_72 (by decide +kernel) rfl (.inr ⟨0, rfl, rfl, rfl⟩) : e_Sn 72 4 (o_load e_okR 0 5)) t_72_5
noncomputable def n_72_1 : e_Y := u_tab (o_oinit 4)
theorem t_72_1 : e_Sn 72 1 (e_un n_72_1) := u_tabT (s_oinit (idx := 3) hq_72 ho_72 (List.mem_of_getElem? (i := 1749) (by decide +kernel)) (List.mem_of_getElem? (i := 190) (by decide +kernel)) (List.mem_of_getElem? (i := 191) (by decide +kernel)) (by decide +kernel) rfl : e_Sn 72 1 (o_oinit 4))
noncomputable def n_72_0 : e_Y := u_ld f_okA f_l0 n_72_1
theorem t_72_0 : e_Sn 72 0 (e_un n_72_0) := u_ldAT f_l0_eq (s_aload (i := .aload_n 0) (len := 1) hq_72 (by decide +kernel) rfl (.inr ⟨0, rfl, rfl, rfl⟩) : e_Sn 72 0 (o_load e_okR 0 1)) t_72_1
noncomputable def e_tb_72 : e_X := (e_br 43 (e_br 21 (e_br 8 (e_br 4 (e_lf 0 (e_un n_72_0)) (e_lf 4 (e_un n_72_4))) (e_br 12 (e_lf 8 (e_un n_72_8)) (e_lf 12 (e_un n_72_12)))) (e_br 32 (e_br 28 (e_lf 21 (e_un n_72_21)) (e_lf 28 (e_un n_72_28))) (e_br 39 (e_lf 32 (e_un n_72_32)) (e_lf 39 (e_un n_72_39))))) (e_br 65 (e_br 54 (e_br 50 (e_lf 43 (e_un n_72_43)) (e_lf 50 (e_un n_72_50))) (e_br 61 (e_lf 54 (e_un n_72_54)) (e_lf 61 (e_un n_72_61)))) (e_br 82 (e_br 74 (e_lf 65 (e_un n_72_65)) (e_lf 74 (e_un n_72_74))) (e_br 87 (e_lf 82 (e_un n_72_82)) (e_lf 87 (e_un n_72_87))))))
theorem e_tk_72 : e_Tb 72 e_tb_72 := (e_brT (e_brT (e_brT (e_brT (e_lfT t_72_0) (e_lfT t_72_4)) (e_brT (e_lfT t_72_8) (e_lfT t_72_12))) (e_brT (e_brT (e_lfT t_72_21) (e_lfT t_72_28)) (e_brT (e_lfT t_72_32) (e_lfT t_72_39)))) (e_brT (e_brT (e_brT (e_lfT t_72_43) (e_lfT t_72_50)) (e_brT (e_lfT t_72_54) (e_lfT t_72_61))) (e_brT (e_brT (e_lfT t_72_65) (e_lfT t_72_74)) (e_brT (e_lfT t_72_82) (e_lfT t_72_87)))))
theorem hq_59 : (e_ml[59]?).map (·.2.1) = some prog_14_method_1_code := rfl
theorem ho_59 : (e_ml[59]?).map (·.1.cls) = some "PlateroomprinterModel" := rfl
theorem hr_59 : (e_ml[59]?).map (·.2.2.2) = some none := rfl
noncomputable def n_59_45 : e_Y := u_tab (o_retv)
theorem t_59_45 : e_Sn 59 45 (e_un n_59_45) := u_tabT (s_vret hq_59 hr_59 (by decide +kernel) : e_Sn 59 45 (o_retv))
noncomputable def n_59_42 : e_Y := u_old (o_putf (e_f1 12 3) e_okR 45) n_59_45
theorem t_59_42 : e_Sn 59 42 (e_un n_59_42) := u_oldT (s_putf (ty0 := ey_12) (ok := e_okR) (C := er_12) (T := et_12) (N := 5) (ref := "PlateroomprinterModel") (index := 23) (ci := 12) (k := 3) hq_59 ho_59 ⟨rfl, by decide, ei_12, (List.mem_of_getElem? (i := 1961) (by decide +kernel)), .inl rfl⟩ eo_12 en_12 e_oksA (.inr ⟨rfl, rfl, rfl⟩) (by decide +kernel) rfl : e_Sn 59 42 (o_putf (e_f1 12 3) e_okR 45)) t_59_45 (e_cg_putf (e_f1 12 3) e_okR)
noncomputable def n_59_41 : e_Y := u_old (o_ast 0 e_okI 42) n_59_42
theorem t_59_41 : e_Sn 59 41 (e_un n_59_41) := u_oldT (s_iast hq_59 (by decide +kernel) rfl : e_Sn 59 41 (o_ast 0 e_okI 42)) t_59_42 (e_cg_ast 0 e_okI)
noncomputable def n_59_40 : e_Y := u_push (.inl 2147483647) n_59_41
theorem t_59_40 : e_Sn 59 40 (e_un n_59_40) := u_pushT (s_iconst (n := (-1)) hq_59 (by decide +kernel) rfl ⟨by decide +kernel, by decide +kernel⟩ : e_Sn 59 40 (o_push (.inl 2147483647) 41)) t_59_41
noncomputable def n_59_39 : e_Y := u_push (.inl 2147483650) n_59_40
theorem t_59_39 : e_Sn 59 39 (e_un n_59_39) := u_pushT (s_iconst (n := (2)) hq_59 (by decide +kernel) rfl ⟨by decide +kernel, by decide +kernel⟩ : e_Sn 59 39 (o_push (.inl 2147483650) 40)) t_59_40
noncomputable def n_59_38 : e_Y := u_old (o_dup 39) n_59_39
theorem t_59_38 : e_Sn 59 38 (e_un n_59_38) := u_oldT (s_dup hq_59 (by decide +kernel) rfl : e_Sn 59 38 (o_dup 39)) t_59_39 e_cg_dup
noncomputable def n_59_37 : e_Y := u_old (o_ast 0 e_okI 38) n_59_38
theorem t_59_37 : e_Sn 59 37 (e_un n_59_37) := u_oldT (s_iast hq_59 (by decide +kernel) rfl : e_Sn 59 37 (o_ast 0 e_okI 38)) t_59_38 (e_cg_ast 0 e_okI)
noncomputable def n_59_36 : e_Y := u_push (.inl 2147483647) n_59_37
theorem t_59_36 : e_Sn 59 36 (e_un n_59_36) := u_pushT (s_iconst (n := (-1)) hq_59 (by decide +kernel) rfl ⟨by decide +kernel, by decide +kernel⟩ : e_Sn 59 36 (o_push (.inl 2147483647) 37)) t_59_37
noncomputable def n_59_35 : e_Y := u_push (.inl 2147483649) n_59_36
theorem t_59_35 : e_Sn 59 35 (e_un n_59_35) := u_pushT (s_iconst (n := (1)) hq_59 (by decide +kernel) rfl ⟨by decide +kernel, by decide +kernel⟩ : e_Sn 59 35 (o_push (.inl 2147483649) 36)) t_59_36
noncomputable def n_59_34 : e_Y := u_old (o_dup 35) n_59_35
theorem t_59_34 : e_Sn 59 34 (e_un n_59_34) := u_oldT (s_dup hq_59 (by decide +kernel) rfl : e_Sn 59 34 (o_dup 35)) t_59_35 e_cg_dup
noncomputable def n_59_33 : e_Y := u_old (o_ast 0 e_okI 34) n_59_34
theorem t_59_33 : e_Sn 59 33 (e_un n_59_33) := u_oldT (s_iast hq_59 (by decide +kernel) rfl : e_Sn 59 33 (o_ast 0 e_okI 34)) t_59_34 (e_cg_ast 0 e_okI)
noncomputable def n_59_32 : e_Y := u_push (.inl 2147483648) n_59_33
theorem t_59_32 : e_Sn 59 32 (e_un n_59_32) := u_pushT (s_iconst (n := (0)) hq_59 (by decide +kernel) rfl ⟨by decide +kernel, by decide +kernel⟩ : e_Sn 59 32 (o_push (.inl 2147483648) 33)) t_59_33
noncomputable def n_59_31 : e_Y := u_push (.inl 2147483648) n_59_32
theorem t_59_31 : e_Sn 59 31 (e_un n_59_31) := u_pushT (s_iconst (n := (0)) hq_59 (by decide +kernel) rfl ⟨by decide +kernel, by decide +kernel⟩ : e_Sn 59 31 (o_push (.inl 2147483648) 32)) t_59_32
noncomputable def n_59_30 : e_Y := u_old (o_dup 31) n_59_31
theorem t_59_30 : e_Sn 59 30 (e_un n_59_30) := u_oldT (s_dup hq_59 (by decide +kernel) rfl : e_Sn 59 30 (o_dup 31)) t_59_31 e_cg_dup
noncomputable def n_59_28 : e_Y := u_tab (o_newa 0 (e_I 2147483648) 30)
theorem t_59_28 : e_Sn 59 28 (e_un n_59_28) := u_tabT (s_newI (List.mem_of_getElem? (i := 215) (by decide +kernel)) hq_59 (by decide +kernel) rfl : e_Sn 59 28 (o_newa 0 (e_I 2147483648) 30))
noncomputable def n_59_27 : e_Y := u_push (.inl 2147483651) n_59_28
theorem t_59_27 : e_Sn 59 27 (e_un n_59_27) := u_pushT (s_iconst (n := (3)) hq_59 (by decide +kernel) rfl ⟨by decide +kernel, by decide +kernel⟩ : e_Sn 59 27 (o_push (.inl 2147483651) 28)) t_59_28
noncomputable def n_59_26 : e_Y := u_ld f_okA f_l0 n_59_27
theorem t_59_26 : e_Sn 59 26 (e_un n_59_26) := u_ldAT f_l0_eq (s_aload (i := .aload_n 0) (len := 1) hq_59 (by decide +kernel) rfl (.inr ⟨0, rfl, rfl, rfl⟩) : e_Sn 59 26 (o_load e_okR 0 27)) t_59_27
noncomputable def n_59_23 : e_Y := u_old (o_putf (e_f1 12 2) e_okR 26) n_59_26
theorem t_59_23 : e_Sn 59 23 (e_un n_59_23) := u_oldT (s_putf (ty0 := ey_12) (ok := e_okR) (C := er_12) (T := et_12) (N := 5) (ref := "PlateroomprinterModel") (index := 19) (ci := 12) (k := 2) hq_59 ho_59 ⟨rfl, by decide, ei_12, (List.mem_of_getElem? (i := 1960) (by decide +kernel)), .inl rfl⟩ eo_12 en_12 e_oksR (.inl rfl) (by decide +kernel) rfl : e_Sn 59 23 (o_putf (e_f1 12 2) e_okR 26)) t_59_26 (e_cg_putf (e_f1 12 2) e_okR)
noncomputable def n_59_20 : e_Y := u_tab (o_callI 102 1 1 23)
theorem t_59_20 : e_Sn 59 20 (e_un n_59_20) := u_tabT (s_callI (index := 18) hq_59 ho_59 hy_102 hp_102 hc_102 hi_102 hd_102 (List.mem_of_getElem? (i := 1957) (by decide +kernel)) rfl rfl hs_102 (by decide +kernel) rfl : e_Sn 59 20 (o_callI 102 1 1 23))
noncomputable def n_59_19 : e_Y := u_old (o_dup 20) n_59_20
theorem t_59_19 : e_Sn 59 19 (e_un n_59_19) := u_oldT (s_dup hq_59 (by decide +kernel) rfl : e_Sn 59 19 (o_dup 20)) t_59_20 e_cg_dup
noncomputable def n_59_16 : e_Y := u_tab (o_new 19 3 ef_19 19)
theorem t_59_16 : e_Sn 59 16 (e_un n_59_16) := u_tabT (s_new (index := 16) (ci := 19) (N := 3) (C := er_19) (T := et_19) (ty0 := ey_19) (fv := eg_19) hq_59 ho_59 rfl ei_19 eo_19 (List.mem_of_getElem? (i := 1956) (by decide +kernel)) (List.mem_of_getElem? (i := 1751) (by decide +kernel)) (List.mem_of_getElem? (i := 155) (by decide +kernel)) eh_19 rfl (e_newrel ek_19) (by decide +kernel) rfl : e_Sn 59 16 (o_new 19 3 ef_19 19))
noncomputable def n_59_15 : e_Y := u_ld f_okA f_l0 n_59_16
theorem t_59_15 : e_Sn 59 15 (e_un n_59_15) := u_ldAT f_l0_eq (s_aload (i := .aload_n 0) (len := 1) hq_59 (by decide +kernel) rfl (.inr ⟨0, rfl, rfl, rfl⟩) : e_Sn 59 15 (o_load e_okR 0 16)) t_59_16
noncomputable def n_59_12 : e_Y := u_old (o_putf (e_f1 12 1) e_okR 15) n_59_15
theorem t_59_12 : e_Sn 59 12 (e_un n_59_12) := u_oldT (s_putf (ty0 := ey_12) (ok := e_okR) (C := er_12) (T := et_12) (N := 5) (ref := "PlateroomprinterModel") (index := 10) (ci := 12) (k := 1) hq_59 ho_59 ⟨rfl, by decide, ei_12, (List.mem_of_getElem? (i := 1959) (by decide +kernel)), .inl rfl⟩ eo_12 en_12 e_oksR (.inl rfl) (by decide +kernel) rfl : e_Sn 59 12 (o_putf (e_f1 12 1) e_okR 15)) t_59_15 (e_cg_putf (e_f1 12 1) e_okR)
noncomputable def n_59_9 : e_Y := u_tab (o_callI 72 2 1 12)
theorem t_59_9 : e_Sn 59 9 (e_un n_59_9) := u_tabT (s_callI (index := 9) hq_59 ho_59 hy_72 hp_72 hc_72 hi_72 hd_72 (List.mem_of_getElem? (i := 1746) (by decide +kernel)) rfl rfl hs_72 (by decide +kernel) rfl : e_Sn 59 9 (o_callI 72 2 1 12))
noncomputable def n_59_8 : e_Y := u_old (o_dup 9) n_59_9
theorem t_59_8 : e_Sn 59 8 (e_un n_59_8) := u_oldT (s_dup hq_59 (by decide +kernel) rfl : e_Sn 59 8 (o_dup 9)) t_59_9 e_cg_dup
noncomputable def n_59_5 : e_Y := u_tab (o_new 14 13 ef_14 8)
theorem t_59_5 : e_Sn 59 5 (e_un n_59_5) := u_tabT (s_new (index := 7) (ci := 14) (N := 13) (C := er_14) (T := et_14) (ty0 := ey_14) (fv := eg_14) hq_59 ho_59 rfl ei_14 eo_14 (List.mem_of_getElem? (i := 1744) (by decide +kernel)) (List.mem_of_getElem? (i := 1745) (by decide +kernel)) (List.mem_of_getElem? (i := 152) (by decide +kernel)) eh_14 rfl (e_newrel ek_14) (by decide +kernel) rfl : e_Sn 59 5 (o_new 14 13 ef_14 8))
noncomputable def n_59_4 : e_Y := u_ld f_okA f_l0 n_59_5
theorem t_59_4 : e_Sn 59 4 (e_un n_59_4) := u_ldAT f_l0_eq (s_aload (i := .aload_n 0) (len := 1) hq_59 (by decide +kernel) rfl (.inr ⟨0, rfl, rfl, rfl⟩) : e_Sn 59 4 (o_load e_okR 0 5)) t_59_5
noncomputable def n_59_1 : e_Y := u_tab (o_oinit 4)
theorem t_59_1 : e_Sn 59 1 (e_un n_59_1) := u_tabT (s_oinit (idx := 1) hq_59 ho_59 (List.mem_of_getElem? (i := 1743) (by decide +kernel)) (List.mem_of_getElem? (i := 190) (by decide +kernel)) (List.mem_of_getElem? (i := 191) (by decide +kernel)) (by decide +kernel) rfl : e_Sn 59 1 (o_oinit 4))
noncomputable def n_59_0 : e_Y := u_ld f_okA f_l0 n_59_1
theorem t_59_0 : e_Sn 59 0 (e_un n_59_0) := u_ldAT f_l0_eq (s_aload (i := .aload_n 0) (len := 1) hq_59 (by decide +kernel) rfl (.inr ⟨0, rfl, rfl, rfl⟩) : e_Sn 59 0 (o_load e_okR 0 1)) t_59_1
noncomputable def e_tb_59 : e_X := (e_br 12 (e_br 4 (e_lf 0 (e_un n_59_0)) (e_br 8 (e_lf 4 (e_un n_59_4)) (e_lf 8 (e_un n_59_8)))) (e_br 23 (e_br 19 (e_lf 12 (e_un n_59_12)) (e_lf 19 (e_un n_59_19))) (e_br 30 (e_lf 23 (e_un n_59_23)) (e_lf 30 (e_un n_59_30)))))
theorem e_tk_59 : e_Tb 59 e_tb_59 := (e_brT (e_brT (e_lfT t_59_0) (e_brT (e_lfT t_59_4) (e_lfT t_59_8))) (e_brT (e_brT (e_lfT t_59_12) (e_lfT t_59_19)) (e_brT (e_lfT t_59_23) (e_lfT t_59_30))))
theorem hq_113 : (e_ml[113]?).map (·.2.1) = some prog_50_method_8_code := rfl
theorem ho_113 : (e_ml[113]?).map (·.1.cls) = some "java/util/ArrayList" := rfl
theorem hr_113 : (e_ml[113]?).map (·.2.2.2) = some (some .int) := rfl
noncomputable def n_113_4 : e_Y := u_retI
theorem t_113_4 : e_Sn 113 4 (e_un n_113_4) := u_retIT (s_iret hq_113 hr_113 (by decide +kernel) : e_Sn 113 4 (o_ret e_okI))
noncomputable def n_113_1 : e_Y := u_getf 19 1 (u_old (o_getf (e_f1 19 1) 4) n_113_4) n_113_4
theorem t_113_1 : e_Sn 113 1 (e_un n_113_1) := u_getfT (s_getf (C := er_19) (T := et_19) (N := 3) (ref := "java/util/ArrayList") (index := 48) (ci := 19) (k := 1) hq_113 ho_113 ⟨rfl, by decide, ei_19, (List.mem_of_getElem? (i := 1767) (by decide +kernel)), .inl rfl⟩ (by decide +kernel) rfl : e_Sn 113 1 (o_getf (e_f1 19 1) 4)) t_113_4
noncomputable def n_113_0 : e_Y := u_ld f_okA f_l0 n_113_1
theorem t_113_0 : e_Sn 113 0 (e_un n_113_0) := u_ldAT f_l0_eq (s_aload (i := .aload_n 0) (len := 1) hq_113 (by decide +kernel) rfl (.inr ⟨0, rfl, rfl, rfl⟩) : e_Sn 113 0 (o_load e_okR 0 1)) t_113_1
noncomputable def e_tb_113 : e_X := (e_lf 0 (e_un n_113_0))
theorem e_tk_113 : e_Tb 113 e_tb_113 := (e_lfT t_113_0)
theorem hq_60 : (e_ml[60]?).map (·.2.1) = some prog_14_method_13_code := rfl
theorem ho_60 : (e_ml[60]?).map (·.1.cls) = some "PlateroomprinterModel" := rfl
theorem hr_60 : (e_ml[60]?).map (·.2.2.2) = some (some (.object "java/util/ArrayList")) := rfl
noncomputable def n_60_46 : e_Y := u_retA
theorem t_60_46 : e_Sn 60 46 (e_un n_60_46) := u_retAT (s_aret (.inl ⟨_, rfl⟩) hq_60 hr_60 (by decide +kernel) : e_Sn 60 46 (o_ret e_okR))
noncomputable def n_60_45 : e_Y := u_ld f_okA f_l3 n_60_46
theorem t_60_45 : e_Sn 60 45 (e_un n_60_45) := u_ldAT f_l3_eq (s_aload (i := .aload_n 3) (len := 1) hq_60 (by decide +kernel) rfl (.inr ⟨3, rfl, rfl, rfl⟩) : e_Sn 60 45 (o_load e_okR 3 46)) t_60_46
noncomputable def n_60_17 : e_Y := u_jmp y_ge (u_old2 (o_clt 20 45) 20 (u_at 20) n_60_45) (u_at 20) n_60_45
theorem t_60_17 : e_Sn 60 17 (e_un n_60_17) := u_cltT rfl (s_cge (off := (28)) hq_60 (by decide +kernel) rfl rfl : e_Sn 60 17 (o_clt 20 45)) u_atT t_60_45
noncomputable def n_60_14 : e_Y := u_callV 19 113 1 20 1 n_113_0 n_60_17
theorem t_60_14 : e_Sn 60 14 (e_un n_60_14) := u_callVT rfl (s_callV (ci := 19) (C := er_19) (T := et_19) (N := 3) (index := 74) hq_60 ho_60 hy_113 hp_113 hc_113 hi_113 hd_113 (List.mem_of_getElem? (i := 2000) (by decide +kernel)) hs_113 (List.mem_of_getElem? (i := 2002) (by decide +kernel)) rfl (by decide +kernel) rfl : e_Sn 60 14 (o_callV (e_s1 19 113 1) 1 17)) t_113_0 t_60_17
noncomputable def n_60_13 : e_Y := u_ld f_okA f_l0 n_60_14
theorem t_60_13 : e_Sn 60 13 (e_un n_60_13) := u_ldAT f_l0_eq (s_aload (i := .aload_n 0) (len := 1) hq_60 (by decide +kernel) rfl (.inr ⟨0, rfl, rfl, rfl⟩) : e_Sn 60 13 (o_load e_okR 0 14)) t_60_14
noncomputable def n_60_11 : e_Y := u_ld f_okI f_l4 n_60_13
theorem t_60_11 : e_Sn 60 11 (e_un n_60_11) := u_ldIT f_l4_eq (s_iload (i := .iload 4) (len := 2) hq_60 (by decide +kernel) rfl (.inl ⟨rfl, rfl⟩) : e_Sn 60 11 (o_load e_okI 4 13)) t_60_13
noncomputable def n_60_9 : e_Y := u_st f_okI f_s4 n_60_11
theorem t_60_9 : e_Sn 60 9 (e_un n_60_9) := u_stIT (fun _ _ _ => f_s4_eq) (s_istore (i := .istore 4) (len := 2) hq_60 (by decide +kernel) rfl (.inl ⟨rfl, rfl⟩) : e_Sn 60 9 (o_store e_okI 4 11)) t_60_11
noncomputable def n_60_8 : e_Y := u_push (.inl 2147483648) n_60_9
theorem t_60_8 : e_Sn 60 8 (e_un n_60_8) := u_pushT (s_iconst (n := (0)) hq_60 (by decide +kernel) rfl ⟨by decide +kernel, by decide +kernel⟩ : e_Sn 60 8 (o_push (.inl 2147483648) 9)) t_60_9
noncomputable def n_60_7 : e_Y := u_st f_okA f_s3 n_60_8
theorem t_60_7 : e_Sn 60 7 (e_un n_60_7) := u_stAT (fun _ _ _ => f_s3_eq) (s_astore (i := .astore_n 3) (len := 1) hq_60 (by decide +kernel) rfl (.inr ⟨3, rfl, rfl, rfl⟩) : e_Sn 60 7 (o_store e_okR 3 8)) t_60_8
noncomputable def n_60_4 : e_Y := u_tab (o_callI 102 1 1 7)
theorem t_60_4 : e_Sn 60 4 (e_un n_60_4) := u_tabT (s_callI (index := 18) hq_60 ho_60 hy_102 hp_102 hc_102 hi_102 hd_102 (List.mem_of_getElem? (i := 1957) (by decide +kernel)) rfl rfl hs_102 (by decide +kernel) rfl : e_Sn 60 4 (o_callI 102 1 1 7))
noncomputable def n_60_3 : e_Y := u_old (o_dup 4) n_60_4
theorem t_60_3 : e_Sn 60 3 (e_un n_60_3) := u_oldT (s_dup hq_60 (by decide +kernel) rfl : e_Sn 60 3 (o_dup 4)) t_60_4 e_cg_dup
noncomputable def n_60_0 : e_Y := u_tab (o_new 19 3 ef_19 3)
theorem t_60_0 : e_Sn 60 0 (e_un n_60_0) := u_tabT (s_new (index := 16) (ci := 19) (N := 3) (C := er_19) (T := et_19) (ty0 := ey_19) (fv := eg_19) hq_60 ho_60 rfl ei_19 eo_19 (List.mem_of_getElem? (i := 1956) (by decide +kernel)) (List.mem_of_getElem? (i := 1751) (by decide +kernel)) (List.mem_of_getElem? (i := 155) (by decide +kernel)) eh_19 rfl (e_newrel ek_19) (by decide +kernel) rfl : e_Sn 60 0 (o_new 19 3 ef_19 3))
noncomputable def e_tb_60 : e_X := (e_br 3 (e_lf 0 (e_un n_60_0)) (e_br 7 (e_lf 3 (e_un n_60_3)) (e_lf 7 (e_un n_60_7))))
theorem e_tk_60 : e_Tb 60 e_tb_60 := (e_brT (e_lfT t_60_0) (e_brT (e_lfT t_60_3) (e_lfT t_60_7)))
theorem hq_61 : (e_ml[61]?).map (·.2.1) = some prog_14_method_20_code := rfl
theorem ho_61 : (e_ml[61]?).map (·.1.cls) = some "PlateroomprinterModel" := rfl
theorem hr_61 : (e_ml[61]?).map (·.2.2.2) = some (some (.array .int)) := rfl
noncomputable def n_61_26 : e_Y := u_retA
theorem t_61_26 : e_Sn 61 26 (e_un n_61_26) := u_retAT (s_aret (.inr ⟨_, rfl⟩) hq_61 hr_61 (by decide +kernel) : e_Sn 61 26 (o_ret e_okR))
noncomputable def n_61_25 : e_Y := u_ld f_okA f_l1 n_61_26
theorem t_61_25 : e_Sn 61 25 (e_un n_61_25) := u_ldAT f_l1_eq (s_aload (i := .aload_n 1) (len := 1) hq_61 (by decide +kernel) rfl (.inr ⟨1, rfl, rfl, rfl⟩) : e_Sn 61 25 (o_load e_okR 1 26)) t_61_26
noncomputable def n_61_22 : e_Y := (u_at 7)
theorem t_61_22 : e_Sn 61 22 (e_un n_61_22) := u_gotoT (s_goto (off := (-15)) hq_61 (by decide +kernel) rfl : e_Sn 61 22 (o_goto 7)) u_atT
noncomputable def n_61_19 : e_Y := u_inc f_l2 f_s2 1 n_61_22
theorem t_61_19 : e_Sn 61 19 (e_un n_61_19) := u_incT f_l2_eq (fun _ _ _ => f_s2_eq) (s_iinc (zz := (1)) hq_61 (by decide +kernel) rfl (by decide +kernel) ⟨by decide, by decide⟩ : e_Sn 61 19 (o_iinc 2 1 22)) t_61_22
noncomputable def n_61_18 : e_Y := u_old (o_ast 0 e_okI 19) n_61_19
theorem t_61_18 : e_Sn 61 18 (e_un n_61_18) := u_oldT (s_iast hq_61 (by decide +kernel) rfl : e_Sn 61 18 (o_ast 0 e_okI 19)) t_61_19 (e_cg_ast 0 e_okI)
noncomputable def n_61_17 : e_Y := u_ald 0 (u_old (o_ald e_fcs 18) n_61_18) n_61_18
theorem t_61_17 : e_Sn 61 17 (e_un n_61_17) := u_aldT (s_iald hq_61 (by decide +kernel) rfl : e_Sn 61 17 (o_ald e_fcs 18)) t_61_18
noncomputable def n_61_16 : e_Y := u_ld f_okI f_l2 n_61_17
theorem t_61_16 : e_Sn 61 16 (e_un n_61_16) := u_ldIT f_l2_eq (s_iload (i := .iload_n 2) (len := 1) hq_61 (by decide +kernel) rfl (.inr ⟨2, rfl, rfl, rfl⟩) : e_Sn 61 16 (o_load e_okI 2 17)) t_61_17
noncomputable def n_61_15 : e_Y := u_ld f_okA f_l0 n_61_16
theorem t_61_15 : e_Sn 61 15 (e_un n_61_15) := u_ldAT f_l0_eq (s_aload (i := .aload_n 0) (len := 1) hq_61 (by decide +kernel) rfl (.inr ⟨0, rfl, rfl, rfl⟩) : e_Sn 61 15 (o_load e_okR 0 16)) t_61_16
noncomputable def n_61_14 : e_Y := u_ld f_okI f_l2 n_61_15
theorem t_61_14 : e_Sn 61 14 (e_un n_61_14) := u_ldIT f_l2_eq (s_iload (i := .iload_n 2) (len := 1) hq_61 (by decide +kernel) rfl (.inr ⟨2, rfl, rfl, rfl⟩) : e_Sn 61 14 (o_load e_okI 2 15)) t_61_15
noncomputable def n_61_13 : e_Y := u_ld f_okA f_l1 n_61_14
theorem t_61_13 : e_Sn 61 13 (e_un n_61_13) := u_ldAT f_l1_eq (s_aload (i := .aload_n 1) (len := 1) hq_61 (by decide +kernel) rfl (.inr ⟨1, rfl, rfl, rfl⟩) : e_Sn 61 13 (o_load e_okR 1 14)) t_61_14
noncomputable def n_61_10 : e_Y := u_jmp y_ge (u_old2 (o_clt 13 25) 13 n_61_13 n_61_25) n_61_13 n_61_25
theorem t_61_10 : e_Sn 61 10 (e_un n_61_10) := u_cltT rfl (s_cge (off := (15)) hq_61 (by decide +kernel) rfl rfl : e_Sn 61 10 (o_clt 13 25)) t_61_13 t_61_25
noncomputable def n_61_9 : e_Y := u_old (o_alen e_fcs 10) n_61_10
theorem t_61_9 : e_Sn 61 9 (e_un n_61_9) := u_oldT (s_alen hq_61 (by decide +kernel) rfl : e_Sn 61 9 (o_alen e_fcs 10)) t_61_10 (e_cg_alen e_fcs)
noncomputable def n_61_8 : e_Y := u_ld f_okA f_l0 n_61_9
theorem t_61_8 : e_Sn 61 8 (e_un n_61_8) := u_ldAT f_l0_eq (s_aload (i := .aload_n 0) (len := 1) hq_61 (by decide +kernel) rfl (.inr ⟨0, rfl, rfl, rfl⟩) : e_Sn 61 8 (o_load e_okR 0 9)) t_61_9
noncomputable def n_61_7 : e_Y := u_ld f_okI f_l2 n_61_8
theorem t_61_7 : e_Sn 61 7 (e_un n_61_7) := u_ldIT f_l2_eq (s_iload (i := .iload_n 2) (len := 1) hq_61 (by decide +kernel) rfl (.inr ⟨2, rfl, rfl, rfl⟩) : e_Sn 61 7 (o_load e_okI 2 8)) t_61_8
noncomputable def n_61_6 : e_Y := u_st f_okI f_s2 n_61_7
theorem t_61_6 : e_Sn 61 6 (e_un n_61_6) := u_stIT (fun _ _ _ => f_s2_eq) (s_istore (i := .istore_n 2) (len := 1) hq_61 (by decide +kernel) rfl (.inr ⟨2, rfl, rfl, rfl⟩) : e_Sn 61 6 (o_store e_okI 2 7)) t_61_7
noncomputable def n_61_5 : e_Y := u_push (.inl 2147483648) n_61_6
theorem t_61_5 : e_Sn 61 5 (e_un n_61_5) := u_pushT (s_iconst (n := (0)) hq_61 (by decide +kernel) rfl ⟨by decide +kernel, by decide +kernel⟩ : e_Sn 61 5 (o_push (.inl 2147483648) 6)) t_61_6
noncomputable def n_61_4 : e_Y := u_st f_okA f_s1 n_61_5
theorem t_61_4 : e_Sn 61 4 (e_un n_61_4) := u_stAT (fun _ _ _ => f_s1_eq) (s_astore (i := .astore_n 1) (len := 1) hq_61 (by decide +kernel) rfl (.inr ⟨1, rfl, rfl, rfl⟩) : e_Sn 61 4 (o_store e_okR 1 5)) t_61_5
noncomputable def n_61_2 : e_Y := u_tab (o_newa 0 (e_I 2147483648) 4)
theorem t_61_2 : e_Sn 61 2 (e_un n_61_2) := u_tabT (s_newI (List.mem_of_getElem? (i := 215) (by decide +kernel)) hq_61 (by decide +kernel) rfl : e_Sn 61 2 (o_newa 0 (e_I 2147483648) 4))
noncomputable def n_61_1 : e_Y := u_old (o_alen e_fcs 2) n_61_2
theorem t_61_1 : e_Sn 61 1 (e_un n_61_1) := u_oldT (s_alen hq_61 (by decide +kernel) rfl : e_Sn 61 1 (o_alen e_fcs 2)) t_61_2 (e_cg_alen e_fcs)
noncomputable def n_61_0 : e_Y := u_ld f_okA f_l0 n_61_1
theorem t_61_0 : e_Sn 61 0 (e_un n_61_0) := u_ldAT f_l0_eq (s_aload (i := .aload_n 0) (len := 1) hq_61 (by decide +kernel) rfl (.inr ⟨0, rfl, rfl, rfl⟩) : e_Sn 61 0 (o_load e_okR 0 1)) t_61_1
noncomputable def e_tb_61 : e_X := (e_br 4 (e_lf 0 (e_un n_61_0)) (e_br 7 (e_lf 4 (e_un n_61_4)) (e_lf 7 (e_un n_61_7))))
theorem e_tk_61 : e_Tb 61 e_tb_61 := (e_brT (e_lfT t_61_0) (e_brT (e_lfT t_61_4) (e_lfT t_61_7)))
theorem hq_62 : (e_ml[62]?).map (·.2.1) = some prog_14_method_19_code := rfl
theorem ho_62 : (e_ml[62]?).map (·.1.cls) = some "PlateroomprinterModel" := rfl
theorem hr_62 : (e_ml[62]?).map (·.2.2.2) = some (some (.array .boolean)) := rfl
noncomputable def n_62_26 : e_Y := u_retA
theorem t_62_26 : e_Sn 62 26 (e_un n_62_26) := u_retAT (s_aret (.inr ⟨_, rfl⟩) hq_62 hr_62 (by decide +kernel) : e_Sn 62 26 (o_ret e_okR))
noncomputable def n_62_25 : e_Y := u_ld f_okA f_l1 n_62_26
theorem t_62_25 : e_Sn 62 25 (e_un n_62_25) := u_ldAT f_l1_eq (s_aload (i := .aload_n 1) (len := 1) hq_62 (by decide +kernel) rfl (.inr ⟨1, rfl, rfl, rfl⟩) : e_Sn 62 25 (o_load e_okR 1 26)) t_62_26
noncomputable def n_62_22 : e_Y := (u_at 7)
theorem t_62_22 : e_Sn 62 22 (e_un n_62_22) := u_gotoT (s_goto (off := (-15)) hq_62 (by decide +kernel) rfl : e_Sn 62 22 (o_goto 7)) u_atT
noncomputable def n_62_19 : e_Y := u_inc f_l2 f_s2 1 n_62_22
theorem t_62_19 : e_Sn 62 19 (e_un n_62_19) := u_incT f_l2_eq (fun _ _ _ => f_s2_eq) (s_iinc (zz := (1)) hq_62 (by decide +kernel) rfl (by decide +kernel) ⟨by decide, by decide⟩ : e_Sn 62 19 (o_iinc 2 1 22)) t_62_22
noncomputable def n_62_18 : e_Y := u_old (o_ast 1 e_okZ 19) n_62_19
theorem t_62_18 : e_Sn 62 18 (e_un n_62_18) := u_oldT (s_zast hq_62 (by decide +kernel) rfl : e_Sn 62 18 (o_ast 1 e_okZ 19)) t_62_19 (e_cg_ast 1 e_okZ)
noncomputable def n_62_17 : e_Y := u_ald 1 (u_old (o_aldO 1 18) n_62_18) n_62_18
theorem t_62_17 : e_Sn 62 17 (e_un n_62_17) := u_aldOT (s_zald hq_62 (by decide +kernel) rfl : e_Sn 62 17 (o_aldO 1 18)) t_62_18
noncomputable def n_62_16 : e_Y := u_ld f_okI f_l2 n_62_17
theorem t_62_16 : e_Sn 62 16 (e_un n_62_16) := u_ldIT f_l2_eq (s_iload (i := .iload_n 2) (len := 1) hq_62 (by decide +kernel) rfl (.inr ⟨2, rfl, rfl, rfl⟩) : e_Sn 62 16 (o_load e_okI 2 17)) t_62_17
noncomputable def n_62_15 : e_Y := u_ld f_okA f_l0 n_62_16
theorem t_62_15 : e_Sn 62 15 (e_un n_62_15) := u_ldAT f_l0_eq (s_aload (i := .aload_n 0) (len := 1) hq_62 (by decide +kernel) rfl (.inr ⟨0, rfl, rfl, rfl⟩) : e_Sn 62 15 (o_load e_okR 0 16)) t_62_16
noncomputable def n_62_14 : e_Y := u_ld f_okI f_l2 n_62_15
theorem t_62_14 : e_Sn 62 14 (e_un n_62_14) := u_ldIT f_l2_eq (s_iload (i := .iload_n 2) (len := 1) hq_62 (by decide +kernel) rfl (.inr ⟨2, rfl, rfl, rfl⟩) : e_Sn 62 14 (o_load e_okI 2 15)) t_62_15
noncomputable def n_62_13 : e_Y := u_ld f_okA f_l1 n_62_14
theorem t_62_13 : e_Sn 62 13 (e_un n_62_13) := u_ldAT f_l1_eq (s_aload (i := .aload_n 1) (len := 1) hq_62 (by decide +kernel) rfl (.inr ⟨1, rfl, rfl, rfl⟩) : e_Sn 62 13 (o_load e_okR 1 14)) t_62_14
noncomputable def n_62_10 : e_Y := u_jmp y_ge (u_old2 (o_clt 13 25) 13 n_62_13 n_62_25) n_62_13 n_62_25
theorem t_62_10 : e_Sn 62 10 (e_un n_62_10) := u_cltT rfl (s_cge (off := (15)) hq_62 (by decide +kernel) rfl rfl : e_Sn 62 10 (o_clt 13 25)) t_62_13 t_62_25
noncomputable def n_62_9 : e_Y := u_old (o_alen e_fcs 10) n_62_10
theorem t_62_9 : e_Sn 62 9 (e_un n_62_9) := u_oldT (s_alen hq_62 (by decide +kernel) rfl : e_Sn 62 9 (o_alen e_fcs 10)) t_62_10 (e_cg_alen e_fcs)
noncomputable def n_62_8 : e_Y := u_ld f_okA f_l0 n_62_9
theorem t_62_8 : e_Sn 62 8 (e_un n_62_8) := u_ldAT f_l0_eq (s_aload (i := .aload_n 0) (len := 1) hq_62 (by decide +kernel) rfl (.inr ⟨0, rfl, rfl, rfl⟩) : e_Sn 62 8 (o_load e_okR 0 9)) t_62_9
noncomputable def n_62_7 : e_Y := u_ld f_okI f_l2 n_62_8
theorem t_62_7 : e_Sn 62 7 (e_un n_62_7) := u_ldIT f_l2_eq (s_iload (i := .iload_n 2) (len := 1) hq_62 (by decide +kernel) rfl (.inr ⟨2, rfl, rfl, rfl⟩) : e_Sn 62 7 (o_load e_okI 2 8)) t_62_8
noncomputable def n_62_6 : e_Y := u_st f_okI f_s2 n_62_7
theorem t_62_6 : e_Sn 62 6 (e_un n_62_6) := u_stIT (fun _ _ _ => f_s2_eq) (s_istore (i := .istore_n 2) (len := 1) hq_62 (by decide +kernel) rfl (.inr ⟨2, rfl, rfl, rfl⟩) : e_Sn 62 6 (o_store e_okI 2 7)) t_62_7
noncomputable def n_62_5 : e_Y := u_push (.inl 2147483648) n_62_6
theorem t_62_5 : e_Sn 62 5 (e_un n_62_5) := u_pushT (s_iconst (n := (0)) hq_62 (by decide +kernel) rfl ⟨by decide +kernel, by decide +kernel⟩ : e_Sn 62 5 (o_push (.inl 2147483648) 6)) t_62_6
noncomputable def n_62_4 : e_Y := u_st f_okA f_s1 n_62_5
theorem t_62_4 : e_Sn 62 4 (e_un n_62_4) := u_stAT (fun _ _ _ => f_s1_eq) (s_astore (i := .astore_n 1) (len := 1) hq_62 (by decide +kernel) rfl (.inr ⟨1, rfl, rfl, rfl⟩) : e_Sn 62 4 (o_store e_okR 1 5)) t_62_5
noncomputable def n_62_2 : e_Y := u_tab (o_newa 1 (e_I 2147483648) 4)
theorem t_62_2 : e_Sn 62 2 (e_un n_62_2) := u_tabT (s_newZ (List.mem_of_getElem? (i := 1819) (by decide +kernel)) hq_62 (by decide +kernel) rfl : e_Sn 62 2 (o_newa 1 (e_I 2147483648) 4))
noncomputable def n_62_1 : e_Y := u_old (o_alen e_fcs 2) n_62_2
theorem t_62_1 : e_Sn 62 1 (e_un n_62_1) := u_oldT (s_alen hq_62 (by decide +kernel) rfl : e_Sn 62 1 (o_alen e_fcs 2)) t_62_2 (e_cg_alen e_fcs)
noncomputable def n_62_0 : e_Y := u_ld f_okA f_l0 n_62_1
theorem t_62_0 : e_Sn 62 0 (e_un n_62_0) := u_ldAT f_l0_eq (s_aload (i := .aload_n 0) (len := 1) hq_62 (by decide +kernel) rfl (.inr ⟨0, rfl, rfl, rfl⟩) : e_Sn 62 0 (o_load e_okR 0 1)) t_62_1
noncomputable def e_tb_62 : e_X := (e_br 4 (e_lf 0 (e_un n_62_0)) (e_br 7 (e_lf 4 (e_un n_62_4)) (e_lf 7 (e_un n_62_7))))
theorem e_tk_62 : e_Tb 62 e_tb_62 := (e_brT (e_lfT t_62_0) (e_brT (e_lfT t_62_4) (e_lfT t_62_7)))
theorem hq_63 : (e_ml[63]?).map (·.2.1) = some prog_14_method_30_code := rfl
theorem ho_63 : (e_ml[63]?).map (·.1.cls) = some "PlateroomprinterModel" := rfl
theorem hr_63 : (e_ml[63]?).map (·.2.2.2) = some (some .int) := rfl
noncomputable def n_63_22 : e_Y := u_retI
theorem t_63_22 : e_Sn 63 22 (e_un n_63_22) := u_retIT (s_iret hq_63 hr_63 (by decide +kernel) : e_Sn 63 22 (o_ret e_okI))
noncomputable def n_63_21 : e_Y := u_ld f_okI f_l1 n_63_22
theorem t_63_21 : e_Sn 63 21 (e_un n_63_21) := u_ldIT f_l1_eq (s_iload (i := .iload_n 1) (len := 1) hq_63 (by decide +kernel) rfl (.inr ⟨1, rfl, rfl, rfl⟩) : e_Sn 63 21 (o_load e_okI 1 22)) t_63_22
noncomputable def n_63_20 : e_Y := u_old (o_ast 0 e_okI 21) n_63_21
theorem t_63_20 : e_Sn 63 20 (e_un n_63_20) := u_oldT (s_iast hq_63 (by decide +kernel) rfl : e_Sn 63 20 (o_ast 0 e_okI 21)) t_63_21 (e_cg_ast 0 e_okI)
noncomputable def n_63_19 : e_Y := u_ld f_okI f_l3 n_63_20
theorem t_63_19 : e_Sn 63 19 (e_un n_63_19) := u_ldIT f_l3_eq (s_iload (i := .iload_n 3) (len := 1) hq_63 (by decide +kernel) rfl (.inr ⟨3, rfl, rfl, rfl⟩) : e_Sn 63 19 (o_load e_okI 3 20)) t_63_20
noncomputable def n_63_18 : e_Y := u_push (.inl 2147483650) n_63_19
theorem t_63_18 : e_Sn 63 18 (e_un n_63_18) := u_pushT (s_iconst (n := (2)) hq_63 (by decide +kernel) rfl ⟨by decide +kernel, by decide +kernel⟩ : e_Sn 63 18 (o_push (.inl 2147483650) 19)) t_63_19
noncomputable def n_63_15 : e_Y := u_getf 12 3 (u_old (o_getf (e_f1 12 3) 18) n_63_18) n_63_18
theorem t_63_15 : e_Sn 63 15 (e_un n_63_15) := u_getfT (s_getf (C := er_12) (T := et_12) (N := 5) (ref := "PlateroomprinterModel") (index := 23) (ci := 12) (k := 3) hq_63 ho_63 ⟨rfl, by decide, ei_12, (List.mem_of_getElem? (i := 1961) (by decide +kernel)), .inl rfl⟩ (by decide +kernel) rfl : e_Sn 63 15 (o_getf (e_f1 12 3) 18)) t_63_18
noncomputable def n_63_14 : e_Y := u_ld f_okA f_l0 n_63_15
theorem t_63_14 : e_Sn 63 14 (e_un n_63_14) := u_ldAT f_l0_eq (s_aload (i := .aload_n 0) (len := 1) hq_63 (by decide +kernel) rfl (.inr ⟨0, rfl, rfl, rfl⟩) : e_Sn 63 14 (o_load e_okR 0 15)) t_63_15
noncomputable def n_63_13 : e_Y := u_old (o_ast 0 e_okI 14) n_63_14
theorem t_63_13 : e_Sn 63 13 (e_un n_63_13) := u_oldT (s_iast hq_63 (by decide +kernel) rfl : e_Sn 63 13 (o_ast 0 e_okI 14)) t_63_14 (e_cg_ast 0 e_okI)
noncomputable def n_63_12 : e_Y := u_ld f_okI f_l2 n_63_13
theorem t_63_12 : e_Sn 63 12 (e_un n_63_12) := u_ldIT f_l2_eq (s_iload (i := .iload_n 2) (len := 1) hq_63 (by decide +kernel) rfl (.inr ⟨2, rfl, rfl, rfl⟩) : e_Sn 63 12 (o_load e_okI 2 13)) t_63_13
noncomputable def n_63_11 : e_Y := u_push (.inl 2147483649) n_63_12
theorem t_63_11 : e_Sn 63 11 (e_un n_63_11) := u_pushT (s_iconst (n := (1)) hq_63 (by decide +kernel) rfl ⟨by decide +kernel, by decide +kernel⟩ : e_Sn 63 11 (o_push (.inl 2147483649) 12)) t_63_12
noncomputable def n_63_8 : e_Y := u_getf 12 3 (u_old (o_getf (e_f1 12 3) 11) n_63_11) n_63_11
theorem t_63_8 : e_Sn 63 8 (e_un n_63_8) := u_getfT (s_getf (C := er_12) (T := et_12) (N := 5) (ref := "PlateroomprinterModel") (index := 23) (ci := 12) (k := 3) hq_63 ho_63 ⟨rfl, by decide, ei_12, (List.mem_of_getElem? (i := 1961) (by decide +kernel)), .inl rfl⟩ (by decide +kernel) rfl : e_Sn 63 8 (o_getf (e_f1 12 3) 11)) t_63_11
noncomputable def n_63_7 : e_Y := u_ld f_okA f_l0 n_63_8
theorem t_63_7 : e_Sn 63 7 (e_un n_63_7) := u_ldAT f_l0_eq (s_aload (i := .aload_n 0) (len := 1) hq_63 (by decide +kernel) rfl (.inr ⟨0, rfl, rfl, rfl⟩) : e_Sn 63 7 (o_load e_okR 0 8)) t_63_8
noncomputable def n_63_6 : e_Y := u_old (o_ast 0 e_okI 7) n_63_7
theorem t_63_6 : e_Sn 63 6 (e_un n_63_6) := u_oldT (s_iast hq_63 (by decide +kernel) rfl : e_Sn 63 6 (o_ast 0 e_okI 7)) t_63_7 (e_cg_ast 0 e_okI)
noncomputable def n_63_5 : e_Y := u_ld f_okI f_l1 n_63_6
theorem t_63_5 : e_Sn 63 5 (e_un n_63_5) := u_ldIT f_l1_eq (s_iload (i := .iload_n 1) (len := 1) hq_63 (by decide +kernel) rfl (.inr ⟨1, rfl, rfl, rfl⟩) : e_Sn 63 5 (o_load e_okI 1 6)) t_63_6
noncomputable def n_63_4 : e_Y := u_push (.inl 2147483648) n_63_5
theorem t_63_4 : e_Sn 63 4 (e_un n_63_4) := u_pushT (s_iconst (n := (0)) hq_63 (by decide +kernel) rfl ⟨by decide +kernel, by decide +kernel⟩ : e_Sn 63 4 (o_push (.inl 2147483648) 5)) t_63_5
noncomputable def n_63_1 : e_Y := u_getf 12 3 (u_old (o_getf (e_f1 12 3) 4) n_63_4) n_63_4
theorem t_63_1 : e_Sn 63 1 (e_un n_63_1) := u_getfT (s_getf (C := er_12) (T := et_12) (N := 5) (ref := "PlateroomprinterModel") (index := 23) (ci := 12) (k := 3) hq_63 ho_63 ⟨rfl, by decide, ei_12, (List.mem_of_getElem? (i := 1961) (by decide +kernel)), .inl rfl⟩ (by decide +kernel) rfl : e_Sn 63 1 (o_getf (e_f1 12 3) 4)) t_63_4
noncomputable def n_63_0 : e_Y := u_ld f_okA f_l0 n_63_1
theorem t_63_0 : e_Sn 63 0 (e_un n_63_0) := u_ldAT f_l0_eq (s_aload (i := .aload_n 0) (len := 1) hq_63 (by decide +kernel) rfl (.inr ⟨0, rfl, rfl, rfl⟩) : e_Sn 63 0 (o_load e_okR 0 1)) t_63_1
noncomputable def e_tb_63 : e_X := (e_lf 0 (e_un n_63_0))
theorem e_tk_63 : e_Tb 63 e_tb_63 := (e_lfT t_63_0)
theorem hq_64 : (e_ml[64]?).map (·.2.1) = some prog_14_method_2_code := rfl
theorem ho_64 : (e_ml[64]?).map (·.1.cls) = some "PlateroomprinterModel" := rfl
theorem hr_64 : (e_ml[64]?).map (·.2.2.2) = some (some .boolean) := rfl
noncomputable def n_64_18 : e_Y := u_tab (o_ret e_okZ)
theorem t_64_18 : e_Sn 64 18 (e_un n_64_18) := u_tabT (s_zret hq_64 hr_64 (by decide +kernel) : e_Sn 64 18 (o_ret e_okZ))
noncomputable def n_64_14 : e_Y := n_64_18
theorem t_64_14 : e_Sn 64 14 (e_un n_64_14) := u_gotoT (s_goto (off := (4)) hq_64 (by decide +kernel) rfl : e_Sn 64 14 (o_goto 18)) t_64_18
noncomputable def n_64_13 : e_Y := u_push (.inl 2147483649) n_64_14
theorem t_64_13 : e_Sn 64 13 (e_un n_64_13) := u_pushT (s_iconst (n := (1)) hq_64 (by decide +kernel) rfl ⟨by decide +kernel, by decide +kernel⟩ : e_Sn 64 13 (o_push (.inl 2147483649) 14)) t_64_14
noncomputable def n_64_10 : e_Y := u_if y_le0 (u_old2 (o_ifgt 17 13) 17 (u_at 17) n_64_13) (u_at 17) n_64_13
theorem t_64_10 : e_Sn 64 10 (e_un n_64_10) := u_ifgtT rfl (s_ifgt (off := (7)) hq_64 (by decide +kernel) rfl rfl : e_Sn 64 10 (o_ifgt 17 13)) u_atT t_64_13
noncomputable def n_64_9 : e_Y := u_old (o_lcmp 10) n_64_10
theorem t_64_9 : e_Sn 64 9 (e_un n_64_9) := u_oldT (s_lcmp hq_64 (by decide +kernel) rfl : e_Sn 64 9 (o_lcmp 10)) t_64_10 e_cg_lcmp
noncomputable def n_64_7 : e_Y := u_old (o_load e_okL 4 9) n_64_9
theorem t_64_7 : e_Sn 64 7 (e_un n_64_7) := u_oldT (s_lload (i := .lload 4) (len := 2) hq_64 (by decide +kernel) rfl (.inl ⟨rfl, rfl⟩) : e_Sn 64 7 (o_load e_okL 4 9)) t_64_9 e_congr_load
noncomputable def n_64_6 : e_Y := u_old (o_load e_okL 0 7) n_64_7
theorem t_64_6 : e_Sn 64 6 (e_un n_64_6) := u_oldT (s_lload (i := .lload_n 0) (len := 1) hq_64 (by decide +kernel) rfl (.inr ⟨0, rfl, rfl, rfl⟩) : e_Sn 64 6 (o_load e_okL 0 7)) t_64_7 e_congr_load
noncomputable def n_64_3 : e_Y := u_if y_ge0 (u_old2 (o_iflt 17 6) 17 (u_at 17) n_64_6) (u_at 17) n_64_6
theorem t_64_3 : e_Sn 64 3 (e_un n_64_3) := u_ifltT rfl (s_iflt (off := (14)) hq_64 (by decide +kernel) rfl rfl : e_Sn 64 3 (o_iflt 17 6)) u_atT t_64_6
noncomputable def n_64_2 : e_Y := u_old (o_lcmp 3) n_64_3
theorem t_64_2 : e_Sn 64 2 (e_un n_64_2) := u_oldT (s_lcmp hq_64 (by decide +kernel) rfl : e_Sn 64 2 (o_lcmp 3)) t_64_3 e_cg_lcmp
noncomputable def n_64_1 : e_Y := u_old (o_load e_okL 2 2) n_64_2
theorem t_64_1 : e_Sn 64 1 (e_un n_64_1) := u_oldT (s_lload (i := .lload_n 2) (len := 1) hq_64 (by decide +kernel) rfl (.inr ⟨2, rfl, rfl, rfl⟩) : e_Sn 64 1 (o_load e_okL 2 2)) t_64_2 e_congr_load
noncomputable def n_64_0 : e_Y := u_old (o_load e_okL 0 1) n_64_1
theorem t_64_0 : e_Sn 64 0 (e_un n_64_0) := u_oldT (s_lload (i := .lload_n 0) (len := 1) hq_64 (by decide +kernel) rfl (.inr ⟨0, rfl, rfl, rfl⟩) : e_Sn 64 0 (o_load e_okL 0 1)) t_64_1 e_congr_load
noncomputable def e_tb_64 : e_X := (e_lf 0 (e_un n_64_0))
theorem e_tk_64 : e_Tb 64 e_tb_64 := (e_lfT t_64_0)
theorem hq_65 : (e_ml[65]?).map (·.2.1) = some prog_14_method_25_code := rfl
theorem ho_65 : (e_ml[65]?).map (·.1.cls) = some "PlateroomprinterModel" := rfl
theorem hr_65 : (e_ml[65]?).map (·.2.2.2) = some (some .boolean) := rfl
noncomputable def n_65_105 : e_Y := u_tab (o_ret e_okZ)
theorem t_65_105 : e_Sn 65 105 (e_un n_65_105) := u_tabT (s_zret hq_65 hr_65 (by decide +kernel) : e_Sn 65 105 (o_ret e_okZ))
noncomputable def n_65_104 : e_Y := u_push (.inl 2147483648) n_65_105
theorem t_65_104 : e_Sn 65 104 (e_un n_65_104) := u_pushT (s_iconst (n := (0)) hq_65 (by decide +kernel) rfl ⟨by decide +kernel, by decide +kernel⟩ : e_Sn 65 104 (o_push (.inl 2147483648) 105)) t_65_105
noncomputable def n_65_97 : e_Y := u_if y_ne0 (u_old2 (o_ifeq 104 100) 104 n_65_104 (u_at 100)) n_65_104 (u_at 100)
theorem t_65_97 : e_Sn 65 97 (e_un n_65_97) := u_ifeqT rfl (s_ifeq (off := (7)) hq_65 (by decide +kernel) rfl rfl : e_Sn 65 97 (o_ifeq 104 100)) t_65_104 u_atT
noncomputable def n_65_96 : e_Y := u_ld f_okI f_l1 n_65_97
theorem t_65_96 : e_Sn 65 96 (e_un n_65_96) := u_ldIT f_l1_eq (s_iload (i := .iload_n 1) (len := 1) hq_65 (by decide +kernel) rfl (.inr ⟨1, rfl, rfl, rfl⟩) : e_Sn 65 96 (o_load e_okI 1 97)) t_65_97
noncomputable def n_65_77 : e_Y := u_tab (o_ret e_okZ)
theorem t_65_77 : e_Sn 65 77 (e_un n_65_77) := u_tabT (s_zret hq_65 hr_65 (by decide +kernel) : e_Sn 65 77 (o_ret e_okZ))
noncomputable def n_65_76 : e_Y := u_push (.inl 2147483648) n_65_77
theorem t_65_76 : e_Sn 65 76 (e_un n_65_76) := u_pushT (s_iconst (n := (0)) hq_65 (by decide +kernel) rfl ⟨by decide +kernel, by decide +kernel⟩ : e_Sn 65 76 (o_push (.inl 2147483648) 77)) t_65_77
noncomputable def n_65_69 : e_Y := u_if y_ne0 (u_old2 (o_ifeq 72 76) 72 (u_at 72) n_65_76) (u_at 72) n_65_76
theorem t_65_69 : e_Sn 65 69 (e_un n_65_69) := u_ifeqT rfl (s_ifne (off := (7)) hq_65 (by decide +kernel) rfl rfl : e_Sn 65 69 (o_ifeq 72 76)) u_atT t_65_76
noncomputable def n_65_66 : e_Y := u_callS 64 6 25 3 n_64_0 n_65_69
theorem t_65_66 : e_Sn 65 66 (e_un n_65_66) := u_callST rfl (s_callS (index := 136) hq_65 ho_65 hy_64 hp_64 hc_64 hi_64 hd_64 (List.mem_of_getElem? (i := 1987) (by decide +kernel)) hs_64 (by decide +kernel) rfl : e_Sn 65 66 (o_callS 64 6 3 69)) t_64_0 t_65_69
noncomputable def n_65_63 : e_Y := u_push (e_L 9223372036854775860) n_65_66
theorem t_65_63 : e_Sn 65 63 (e_un n_65_63) := u_pushT (s_ldc2 (index := 140) (v := (52)) hq_65 ho_65 (List.mem_of_getElem? (i := 1990) (by decide +kernel)) (by decide +kernel) rfl ⟨by decide +kernel, by decide +kernel⟩ : e_Sn 65 63 (o_push (e_L 9223372036854775860) 66)) t_65_66
noncomputable def n_65_62 : e_Y := u_push (e_L 9223372036854775808) n_65_63
theorem t_65_62 : e_Sn 65 62 (e_un n_65_62) := u_pushT (s_lconst (n := 0) hq_65 (by decide +kernel) rfl ⟨by decide +kernel, by decide +kernel⟩ : e_Sn 65 62 (o_push (e_L 9223372036854775808) 63)) t_65_63
noncomputable def n_65_61 : e_Y := u_old (o_i2l 62) n_65_62
theorem t_65_61 : e_Sn 65 61 (e_un n_65_61) := u_oldT (s_i2l hq_65 (by decide +kernel) rfl : e_Sn 65 61 (o_i2l 62)) t_65_62 e_congr_i2l
noncomputable def n_65_60 : e_Y := u_ld f_okI f_l1 n_65_61
theorem t_65_60 : e_Sn 65 60 (e_un n_65_60) := u_ldIT f_l1_eq (s_iload (i := .iload_n 1) (len := 1) hq_65 (by decide +kernel) rfl (.inr ⟨1, rfl, rfl, rfl⟩) : e_Sn 65 60 (o_load e_okI 1 61)) t_65_61
noncomputable def n_65_59 : e_Y := u_tab (o_ret e_okZ)
theorem t_65_59 : e_Sn 65 59 (e_un n_65_59) := u_tabT (s_zret hq_65 hr_65 (by decide +kernel) : e_Sn 65 59 (o_ret e_okZ))
noncomputable def n_65_58 : e_Y := u_push (.inl 2147483648) n_65_59
theorem t_65_58 : e_Sn 65 58 (e_un n_65_58) := u_pushT (s_iconst (n := (0)) hq_65 (by decide +kernel) rfl ⟨by decide +kernel, by decide +kernel⟩ : e_Sn 65 58 (o_push (.inl 2147483648) 59)) t_65_59
noncomputable def n_65_51 : e_Y := u_if y_ne0 (u_old2 (o_ifeq 54 58) 54 (u_at 54) n_65_58) (u_at 54) n_65_58
theorem t_65_51 : e_Sn 65 51 (e_un n_65_51) := u_ifeqT rfl (s_ifne (off := (7)) hq_65 (by decide +kernel) rfl rfl : e_Sn 65 51 (o_ifeq 54 58)) u_atT t_65_58
noncomputable def n_65_48 : e_Y := u_callS 64 6 25 3 n_64_0 n_65_51
theorem t_65_48 : e_Sn 65 48 (e_un n_65_48) := u_callST rfl (s_callS (index := 136) hq_65 ho_65 hy_64 hp_64 hc_64 hi_64 hd_64 (List.mem_of_getElem? (i := 1987) (by decide +kernel)) hs_64 (by decide +kernel) rfl : e_Sn 65 48 (o_callS 64 6 3 51)) t_64_0 t_65_51
noncomputable def n_65_45 : e_Y := u_push (e_L 9223372036854785807) n_65_48
theorem t_65_45 : e_Sn 65 45 (e_un n_65_45) := u_pushT (s_ldc2 (index := 134) (v := (9999)) hq_65 ho_65 (List.mem_of_getElem? (i := 1986) (by decide +kernel)) (by decide +kernel) rfl ⟨by decide +kernel, by decide +kernel⟩ : e_Sn 65 45 (o_push (e_L 9223372036854785807) 48)) t_65_48
noncomputable def n_65_42 : e_Y := u_push (e_L 9223372036854765809) n_65_45
theorem t_65_42 : e_Sn 65 42 (e_un n_65_42) := u_pushT (s_ldc2 (index := 132) (v := (-9999)) hq_65 ho_65 (List.mem_of_getElem? (i := 1985) (by decide +kernel)) (by decide +kernel) rfl ⟨by decide +kernel, by decide +kernel⟩ : e_Sn 65 42 (o_push (e_L 9223372036854765809) 45)) t_65_45
noncomputable def n_65_41 : e_Y := u_old (o_i2l 42) n_65_42
theorem t_65_41 : e_Sn 65 41 (e_un n_65_41) := u_oldT (s_i2l hq_65 (by decide +kernel) rfl : e_Sn 65 41 (o_i2l 42)) t_65_42 e_congr_i2l
noncomputable def n_65_40 : e_Y := u_ld f_okI f_l1 n_65_41
theorem t_65_40 : e_Sn 65 40 (e_un n_65_40) := u_ldIT f_l1_eq (s_iload (i := .iload_n 1) (len := 1) hq_65 (by decide +kernel) rfl (.inr ⟨1, rfl, rfl, rfl⟩) : e_Sn 65 40 (o_load e_okI 1 41)) t_65_41
noncomputable def n_65_1 : e_Y := u_tab (o_switch 2147483648 [40, 60, 78, 78, 96, 96] 106)
theorem t_65_1 : e_Sn 65 1 (e_un n_65_1) := u_tabT (s_switch (dflt := (105)) (low := (0)) (hi := (5)) (offs := #[(39), (59), (77), (77), (95), (95)]) (len := 39) hq_65 (by decide +kernel) rfl rfl rfl rfl : e_Sn 65 1 (o_switch 2147483648 [40, 60, 78, 78, 96, 96] 106))
noncomputable def n_65_0 : e_Y := u_ld f_okI f_l0 n_65_1
theorem t_65_0 : e_Sn 65 0 (e_un n_65_0) := u_ldIT f_l0_eq (s_iload (i := .iload_n 0) (len := 1) hq_65 (by decide +kernel) rfl (.inr ⟨0, rfl, rfl, rfl⟩) : e_Sn 65 0 (o_load e_okI 0 1)) t_65_1
noncomputable def e_tb_65 : e_X := (e_br 60 (e_br 40 (e_lf 0 (e_un n_65_0)) (e_lf 40 (e_un n_65_40))) (e_br 96 (e_lf 60 (e_un n_65_60)) (e_lf 96 (e_un n_65_96))))
theorem e_tk_65 : e_Tb 65 e_tb_65 := (e_brT (e_brT (e_lfT t_65_0) (e_lfT t_65_40)) (e_brT (e_lfT t_65_60) (e_lfT t_65_96)))
theorem hq_66 : (e_ml[66]?).map (·.2.1) = some prog_14_method_4_code := rfl
theorem ho_66 : (e_ml[66]?).map (·.1.cls) = some "PlateroomprinterModel" := rfl
theorem hr_66 : (e_ml[66]?).map (·.2.2.2) = some none := rfl
noncomputable def n_66_13 : e_Y := u_tab (o_retv)
theorem t_66_13 : e_Sn 66 13 (e_un n_66_13) := u_tabT (s_vret hq_66 hr_66 (by decide +kernel) : e_Sn 66 13 (o_retv))
noncomputable def n_66_1 : e_Y := u_if y_ne0 (u_old2 (o_ifeq 4 13) 4 (u_at 4) n_66_13) (u_at 4) n_66_13
theorem t_66_1 : e_Sn 66 1 (e_un n_66_1) := u_ifeqT rfl (s_ifne (off := (12)) hq_66 (by decide +kernel) rfl rfl : e_Sn 66 1 (o_ifeq 4 13)) u_atT t_66_13
noncomputable def n_66_0 : e_Y := u_ld f_okI f_l0 n_66_1
theorem t_66_0 : e_Sn 66 0 (e_un n_66_0) := u_ldIT f_l0_eq (s_iload (i := .iload_n 0) (len := 1) hq_66 (by decide +kernel) rfl (.inr ⟨0, rfl, rfl, rfl⟩) : e_Sn 66 0 (o_load e_okI 0 1)) t_66_1
noncomputable def e_tb_66 : e_X := (e_lf 0 (e_un n_66_0))
theorem e_tk_66 : e_Tb 66 e_tb_66 := (e_lfT t_66_0)
theorem hq_67 : (e_ml[67]?).map (·.2.1) = some prog_14_method_23_code := rfl
theorem ho_67 : (e_ml[67]?).map (·.1.cls) = some "PlateroomprinterModel" := rfl
theorem hr_67 : (e_ml[67]?).map (·.2.2.2) = some (some .boolean) := rfl
noncomputable def n_67_28 : e_Y := u_tab (o_ret e_okZ)
theorem t_67_28 : e_Sn 67 28 (e_un n_67_28) := u_tabT (s_zret hq_67 hr_67 (by decide +kernel) : e_Sn 67 28 (o_ret e_okZ))
noncomputable def n_67_27 : e_Y := u_push (.inl 2147483648) n_67_28
theorem t_67_27 : e_Sn 67 27 (e_un n_67_27) := u_pushT (s_iconst (n := (0)) hq_67 (by decide +kernel) rfl ⟨by decide +kernel, by decide +kernel⟩ : e_Sn 67 27 (o_push (.inl 2147483648) 28)) t_67_28
noncomputable def n_67_20 : e_Y := u_if y_le0 (u_old2 (o_ifgt 23 27) 23 (u_at 23) n_67_27) (u_at 23) n_67_27
theorem t_67_20 : e_Sn 67 20 (e_un n_67_20) := u_ifgtT rfl (s_ifle (off := (7)) hq_67 (by decide +kernel) rfl rfl : e_Sn 67 20 (o_ifgt 23 27)) u_atT t_67_27
noncomputable def n_67_17 : e_Y := u_getf 12 0 (u_old (o_getf (e_f1 12 0) 20) n_67_20) n_67_20
theorem t_67_17 : e_Sn 67 17 (e_un n_67_17) := u_getfT (s_getf (C := er_12) (T := et_12) (N := 5) (ref := "PlateroomprinterModel") (index := 124) (ci := 12) (k := 0) hq_67 ho_67 ⟨rfl, by decide, ei_12, (List.mem_of_getElem? (i := 1958) (by decide +kernel)), .inl rfl⟩ (by decide +kernel) rfl : e_Sn 67 17 (o_getf (e_f1 12 0) 20)) t_67_20
noncomputable def n_67_16 : e_Y := u_ld f_okA f_l0 n_67_17
theorem t_67_16 : e_Sn 67 16 (e_un n_67_16) := u_ldAT f_l0_eq (s_aload (i := .aload_n 0) (len := 1) hq_67 (by decide +kernel) rfl (.inr ⟨0, rfl, rfl, rfl⟩) : e_Sn 67 16 (o_load e_okR 0 17)) t_67_17
noncomputable def n_67_1 : e_Y := u_if y_ne0 (u_old2 (o_ifeq 16 4) 16 n_67_16 (u_at 4)) n_67_16 (u_at 4)
theorem t_67_1 : e_Sn 67 1 (e_un n_67_1) := u_ifeqT rfl (s_ifeq (off := (15)) hq_67 (by decide +kernel) rfl rfl : e_Sn 67 1 (o_ifeq 16 4)) t_67_16 u_atT
noncomputable def n_67_0 : e_Y := u_ld f_okI f_l1 n_67_1
theorem t_67_0 : e_Sn 67 0 (e_un n_67_0) := u_ldIT f_l1_eq (s_iload (i := .iload_n 1) (len := 1) hq_67 (by decide +kernel) rfl (.inr ⟨1, rfl, rfl, rfl⟩) : e_Sn 67 0 (o_load e_okI 1 1)) t_67_1
noncomputable def e_tb_67 : e_X := (e_lf 0 (e_un n_67_0))
theorem e_tk_67 : e_Tb 67 e_tb_67 := (e_lfT t_67_0)
theorem hq_97 : (e_ml[97]?).map (·.2.1) = some prog_21_method_2_code := rfl
theorem ho_97 : (e_ml[97]?).map (·.1.cls) = some "PlateroomprinterModel$State" := rfl
theorem hr_97 : (e_ml[97]?).map (·.2.2.2) = some (some (.object "PlateroomprinterModel$State")) := rfl
noncomputable def n_97_89 : e_Y := u_retA
theorem t_97_89 : e_Sn 97 89 (e_un n_97_89) := u_retAT (s_aret (.inl ⟨_, rfl⟩) hq_97 hr_97 (by decide +kernel) : e_Sn 97 89 (o_ret e_okR))
noncomputable def n_97_88 : e_Y := u_ld f_okA f_l1 n_97_89
theorem t_97_88 : e_Sn 97 88 (e_un n_97_88) := u_ldAT f_l1_eq (s_aload (i := .aload_n 1) (len := 1) hq_97 (by decide +kernel) rfl (.inr ⟨1, rfl, rfl, rfl⟩) : e_Sn 97 88 (o_load e_okR 1 89)) t_97_89
noncomputable def n_97_85 : e_Y := u_old (o_putf (e_f1 17 5) e_okR 88) n_97_88
theorem t_97_85 : e_Sn 97 85 (e_un n_97_85) := u_oldT (s_putf (ty0 := ey_17) (ok := e_okR) (C := er_17) (T := et_17) (N := 6) (ref := "PlateroomprinterModel$State") (index := 30) (ci := 17) (k := 5) hq_97 ho_97 ⟨rfl, by decide, ei_17, (List.mem_of_getElem? (i := 1803) (by decide +kernel)), .inl rfl⟩ eo_17 en_17 e_oksA (.inl rfl) (by decide +kernel) rfl : e_Sn 97 85 (o_putf (e_f1 17 5) e_okR 88)) t_97_88 (e_cg_putf (e_f1 17 5) e_okR)
noncomputable def n_97_82 : e_Y := u_callS 61 3 22 1 n_61_0 n_97_85
theorem t_97_82 : e_Sn 97 82 (e_un n_97_82) := u_callST rfl (s_callSN (host := "PlateroomprinterModel") (index := 44) hq_97 ho_97 hy_61 hp_61 hc_61 hi_61 hd_61 (List.mem_of_getElem? (i := 2098) (by decide +kernel)) hs_61 (by decide +kernel) rfl : e_Sn 97 82 (o_callS 61 3 1 85)) t_61_0 t_97_85
noncomputable def n_97_79 : e_Y := u_getf 17 5 (u_old (o_getf (e_f1 17 5) 82) n_97_82) n_97_82
theorem t_97_79 : e_Sn 97 79 (e_un n_97_79) := u_getfT (s_getf (C := er_17) (T := et_17) (N := 6) (ref := "PlateroomprinterModel$State") (index := 30) (ci := 17) (k := 5) hq_97 ho_97 ⟨rfl, by decide, ei_17, (List.mem_of_getElem? (i := 1803) (by decide +kernel)), .inl rfl⟩ (by decide +kernel) rfl : e_Sn 97 79 (o_getf (e_f1 17 5) 82)) t_97_82
noncomputable def n_97_78 : e_Y := u_ld f_okA f_l0 n_97_79
theorem t_97_78 : e_Sn 97 78 (e_un n_97_78) := u_ldAT f_l0_eq (s_aload (i := .aload_n 0) (len := 1) hq_97 (by decide +kernel) rfl (.inr ⟨0, rfl, rfl, rfl⟩) : e_Sn 97 78 (o_load e_okR 0 79)) t_97_79
noncomputable def n_97_77 : e_Y := u_ld f_okA f_l1 n_97_78
theorem t_97_77 : e_Sn 97 77 (e_un n_97_77) := u_ldAT f_l1_eq (s_aload (i := .aload_n 1) (len := 1) hq_97 (by decide +kernel) rfl (.inr ⟨1, rfl, rfl, rfl⟩) : e_Sn 97 77 (o_load e_okR 1 78)) t_97_78
noncomputable def n_97_74 : e_Y := u_old (o_putf (e_f1 17 4) e_okR 77) n_97_77
theorem t_97_74 : e_Sn 97 74 (e_un n_97_74) := u_oldT (s_putf (ty0 := ey_17) (ok := e_okR) (C := er_17) (T := et_17) (N := 6) (ref := "PlateroomprinterModel$State") (index := 26) (ci := 17) (k := 4) hq_97 ho_97 ⟨rfl, by decide, ei_17, (List.mem_of_getElem? (i := 1800) (by decide +kernel)), .inl rfl⟩ eo_17 en_17 e_oksA (.inl rfl) (by decide +kernel) rfl : e_Sn 97 74 (o_putf (e_f1 17 4) e_okR 77)) t_97_77 (e_cg_putf (e_f1 17 4) e_okR)
noncomputable def n_97_71 : e_Y := u_callS 61 3 22 1 n_61_0 n_97_74
theorem t_97_71 : e_Sn 97 71 (e_un n_97_71) := u_callST rfl (s_callSN (host := "PlateroomprinterModel") (index := 44) hq_97 ho_97 hy_61 hp_61 hc_61 hi_61 hd_61 (List.mem_of_getElem? (i := 2098) (by decide +kernel)) hs_61 (by decide +kernel) rfl : e_Sn 97 71 (o_callS 61 3 1 74)) t_61_0 t_97_74
noncomputable def n_97_68 : e_Y := u_getf 17 4 (u_old (o_getf (e_f1 17 4) 71) n_97_71) n_97_71
theorem t_97_68 : e_Sn 97 68 (e_un n_97_68) := u_getfT (s_getf (C := er_17) (T := et_17) (N := 6) (ref := "PlateroomprinterModel$State") (index := 26) (ci := 17) (k := 4) hq_97 ho_97 ⟨rfl, by decide, ei_17, (List.mem_of_getElem? (i := 1800) (by decide +kernel)), .inl rfl⟩ (by decide +kernel) rfl : e_Sn 97 68 (o_getf (e_f1 17 4) 71)) t_97_71
noncomputable def n_97_67 : e_Y := u_ld f_okA f_l0 n_97_68
theorem t_97_67 : e_Sn 97 67 (e_un n_97_67) := u_ldAT f_l0_eq (s_aload (i := .aload_n 0) (len := 1) hq_97 (by decide +kernel) rfl (.inr ⟨0, rfl, rfl, rfl⟩) : e_Sn 97 67 (o_load e_okR 0 68)) t_97_68
noncomputable def n_97_66 : e_Y := u_ld f_okA f_l1 n_97_67
theorem t_97_66 : e_Sn 97 66 (e_un n_97_66) := u_ldAT f_l1_eq (s_aload (i := .aload_n 1) (len := 1) hq_97 (by decide +kernel) rfl (.inr ⟨1, rfl, rfl, rfl⟩) : e_Sn 97 66 (o_load e_okR 1 67)) t_97_67
noncomputable def n_97_63 : e_Y := u_old (o_putf (e_f1 17 3) e_okR 66) n_97_66
theorem t_97_63 : e_Sn 97 63 (e_un n_97_63) := u_oldT (s_putf (ty0 := ey_17) (ok := e_okR) (C := er_17) (T := et_17) (N := 6) (ref := "PlateroomprinterModel$State") (index := 22) (ci := 17) (k := 3) hq_97 ho_97 ⟨rfl, by decide, ei_17, (List.mem_of_getElem? (i := 1797) (by decide +kernel)), .inl rfl⟩ eo_17 en_17 e_oksA (.inl rfl) (by decide +kernel) rfl : e_Sn 97 63 (o_putf (e_f1 17 3) e_okR 66)) t_97_66 (e_cg_putf (e_f1 17 3) e_okR)
noncomputable def n_97_60 : e_Y := u_callS 62 3 22 1 n_62_0 n_97_63
theorem t_97_60 : e_Sn 97 60 (e_un n_97_60) := u_callST rfl (s_callSN (host := "PlateroomprinterModel") (index := 41) hq_97 ho_97 hy_62 hp_62 hc_62 hi_62 hd_62 (List.mem_of_getElem? (i := 2095) (by decide +kernel)) hs_62 (by decide +kernel) rfl : e_Sn 97 60 (o_callS 62 3 1 63)) t_62_0 t_97_63
noncomputable def n_97_57 : e_Y := u_getf 17 3 (u_old (o_getf (e_f1 17 3) 60) n_97_60) n_97_60
theorem t_97_57 : e_Sn 97 57 (e_un n_97_57) := u_getfT (s_getf (C := er_17) (T := et_17) (N := 6) (ref := "PlateroomprinterModel$State") (index := 22) (ci := 17) (k := 3) hq_97 ho_97 ⟨rfl, by decide, ei_17, (List.mem_of_getElem? (i := 1797) (by decide +kernel)), .inl rfl⟩ (by decide +kernel) rfl : e_Sn 97 57 (o_getf (e_f1 17 3) 60)) t_97_60
noncomputable def n_97_56 : e_Y := u_ld f_okA f_l0 n_97_57
theorem t_97_56 : e_Sn 97 56 (e_un n_97_56) := u_ldAT f_l0_eq (s_aload (i := .aload_n 0) (len := 1) hq_97 (by decide +kernel) rfl (.inr ⟨0, rfl, rfl, rfl⟩) : e_Sn 97 56 (o_load e_okR 0 57)) t_97_57
noncomputable def n_97_55 : e_Y := u_ld f_okA f_l1 n_97_56
theorem t_97_55 : e_Sn 97 55 (e_un n_97_55) := u_ldAT f_l1_eq (s_aload (i := .aload_n 1) (len := 1) hq_97 (by decide +kernel) rfl (.inr ⟨1, rfl, rfl, rfl⟩) : e_Sn 97 55 (o_load e_okR 1 56)) t_97_56
noncomputable def n_97_52 : e_Y := u_old (o_putf (e_f1 17 2) e_okR 55) n_97_55
theorem t_97_52 : e_Sn 97 52 (e_un n_97_52) := u_oldT (s_putf (ty0 := ey_17) (ok := e_okR) (C := er_17) (T := et_17) (N := 6) (ref := "PlateroomprinterModel$State") (index := 38) (ci := 17) (k := 2) hq_97 ho_97 ⟨rfl, by decide, ei_17, (List.mem_of_getElem? (i := 1794) (by decide +kernel)), .inl rfl⟩ eo_17 en_17 e_oksA (.inl rfl) (by decide +kernel) rfl : e_Sn 97 52 (o_putf (e_f1 17 2) e_okR 55)) t_97_55 (e_cg_putf (e_f1 17 2) e_okR)
noncomputable def n_97_49 : e_Y := u_getf 17 2 (u_old (o_getf (e_f1 17 2) 52) n_97_52) n_97_52
theorem t_97_49 : e_Sn 97 49 (e_un n_97_49) := u_getfT (s_getf (C := er_17) (T := et_17) (N := 6) (ref := "PlateroomprinterModel$State") (index := 38) (ci := 17) (k := 2) hq_97 ho_97 ⟨rfl, by decide, ei_17, (List.mem_of_getElem? (i := 1794) (by decide +kernel)), .inl rfl⟩ (by decide +kernel) rfl : e_Sn 97 49 (o_getf (e_f1 17 2) 52)) t_97_52
noncomputable def n_97_48 : e_Y := u_ld f_okA f_l0 n_97_49
theorem t_97_48 : e_Sn 97 48 (e_un n_97_48) := u_ldAT f_l0_eq (s_aload (i := .aload_n 0) (len := 1) hq_97 (by decide +kernel) rfl (.inr ⟨0, rfl, rfl, rfl⟩) : e_Sn 97 48 (o_load e_okR 0 49)) t_97_49
noncomputable def n_97_47 : e_Y := u_ld f_okA f_l1 n_97_48
theorem t_97_47 : e_Sn 97 47 (e_un n_97_47) := u_ldAT f_l1_eq (s_aload (i := .aload_n 1) (len := 1) hq_97 (by decide +kernel) rfl (.inr ⟨1, rfl, rfl, rfl⟩) : e_Sn 97 47 (o_load e_okR 1 48)) t_97_48
noncomputable def n_97_44 : e_Y := u_old (o_putf (e_f1 17 1) e_okR 47) n_97_47
theorem t_97_44 : e_Sn 97 44 (e_un n_97_44) := u_oldT (s_putf (ty0 := ey_17) (ok := e_okR) (C := er_17) (T := et_17) (N := 6) (ref := "PlateroomprinterModel$State") (index := 18) (ci := 17) (k := 1) hq_97 ho_97 ⟨rfl, by decide, ei_17, (List.mem_of_getElem? (i := 1791) (by decide +kernel)), .inl rfl⟩ eo_17 en_17 e_oksR (.inl rfl) (by decide +kernel) rfl : e_Sn 97 44 (o_putf (e_f1 17 1) e_okR 47)) t_97_47 (e_cg_putf (e_f1 17 1) e_okR)
noncomputable def n_97_41 : e_Y := u_callS 60 5 24 3 n_60_0 n_97_44
theorem t_97_41 : e_Sn 97 41 (e_un n_97_41) := u_callST rfl (s_callSN (host := "PlateroomprinterModel") (index := 34) hq_97 ho_97 hy_60 hp_60 hc_60 hi_60 hd_60 (List.mem_of_getElem? (i := 2063) (by decide +kernel)) hs_60 (by decide +kernel) rfl : e_Sn 97 41 (o_callS 60 5 3 44)) t_60_0 t_97_44
noncomputable def n_97_40 : e_Y := u_push (.inl 2147483648) n_97_41
theorem t_97_40 : e_Sn 97 40 (e_un n_97_40) := u_pushT (s_iconst (n := (0)) hq_97 (by decide +kernel) rfl ⟨by decide +kernel, by decide +kernel⟩ : e_Sn 97 40 (o_push (.inl 2147483648) 41)) t_97_41
noncomputable def n_97_39 : e_Y := u_push (.inl 2147483648) n_97_40
theorem t_97_39 : e_Sn 97 39 (e_un n_97_39) := u_pushT (s_iconst (n := (0)) hq_97 (by decide +kernel) rfl ⟨by decide +kernel, by decide +kernel⟩ : e_Sn 97 39 (o_push (.inl 2147483648) 40)) t_97_40
noncomputable def n_97_36 : e_Y := u_getf 17 1 (u_old (o_getf (e_f1 17 1) 39) n_97_39) n_97_39
theorem t_97_36 : e_Sn 97 36 (e_un n_97_36) := u_getfT (s_getf (C := er_17) (T := et_17) (N := 6) (ref := "PlateroomprinterModel$State") (index := 18) (ci := 17) (k := 1) hq_97 ho_97 ⟨rfl, by decide, ei_17, (List.mem_of_getElem? (i := 1791) (by decide +kernel)), .inl rfl⟩ (by decide +kernel) rfl : e_Sn 97 36 (o_getf (e_f1 17 1) 39)) t_97_39
noncomputable def n_97_35 : e_Y := u_ld f_okA f_l0 n_97_36
theorem t_97_35 : e_Sn 97 35 (e_un n_97_35) := u_ldAT f_l0_eq (s_aload (i := .aload_n 0) (len := 1) hq_97 (by decide +kernel) rfl (.inr ⟨0, rfl, rfl, rfl⟩) : e_Sn 97 35 (o_load e_okR 0 36)) t_97_36
noncomputable def n_97_34 : e_Y := u_ld f_okA f_l1 n_97_35
theorem t_97_34 : e_Sn 97 34 (e_un n_97_34) := u_ldAT f_l1_eq (s_aload (i := .aload_n 1) (len := 1) hq_97 (by decide +kernel) rfl (.inr ⟨1, rfl, rfl, rfl⟩) : e_Sn 97 34 (o_load e_okR 1 35)) t_97_35
noncomputable def n_97_31 : e_Y := (u_at 10)
theorem t_97_31 : e_Sn 97 31 (e_un n_97_31) := u_gotoT (s_goto (off := (-21)) hq_97 (by decide +kernel) rfl : e_Sn 97 31 (o_goto 10)) u_atT
noncomputable def n_97_28 : e_Y := u_inc f_l2 f_s2 1 n_97_31
theorem t_97_28 : e_Sn 97 28 (e_un n_97_28) := u_incT f_l2_eq (fun _ _ _ => f_s2_eq) (s_iinc (zz := (1)) hq_97 (by decide +kernel) rfl (by decide +kernel) ⟨by decide, by decide⟩ : e_Sn 97 28 (o_iinc 2 1 31)) t_97_31
noncomputable def n_97_27 : e_Y := u_old (o_ast 2 e_okL 28) n_97_28
theorem t_97_27 : e_Sn 97 27 (e_un n_97_27) := u_oldT (s_last hq_97 (by decide +kernel) rfl : e_Sn 97 27 (o_ast 2 e_okL 28)) t_97_28 (e_cg_ast 2 e_okL)
noncomputable def n_97_26 : e_Y := u_ald 2 (u_old (o_aldO 2 27) n_97_27) n_97_27
theorem t_97_26 : e_Sn 97 26 (e_un n_97_26) := u_aldOT (s_lald hq_97 (by decide +kernel) rfl : e_Sn 97 26 (o_aldO 2 27)) t_97_27
noncomputable def n_97_25 : e_Y := u_ld f_okI f_l2 n_97_26
theorem t_97_25 : e_Sn 97 25 (e_un n_97_25) := u_ldIT f_l2_eq (s_iload (i := .iload_n 2) (len := 1) hq_97 (by decide +kernel) rfl (.inr ⟨2, rfl, rfl, rfl⟩) : e_Sn 97 25 (o_load e_okI 2 26)) t_97_26
noncomputable def n_97_22 : e_Y := u_getf 17 0 (u_old (o_getf (e_f1 17 0) 25) n_97_25) n_97_25
theorem t_97_22 : e_Sn 97 22 (e_un n_97_22) := u_getfT (s_getf (C := er_17) (T := et_17) (N := 6) (ref := "PlateroomprinterModel$State") (index := 9) (ci := 17) (k := 0) hq_97 ho_97 ⟨rfl, by decide, ei_17, (List.mem_of_getElem? (i := 1789) (by decide +kernel)), .inl rfl⟩ (by decide +kernel) rfl : e_Sn 97 22 (o_getf (e_f1 17 0) 25)) t_97_25
noncomputable def n_97_21 : e_Y := u_ld f_okA f_l0 n_97_22
theorem t_97_21 : e_Sn 97 21 (e_un n_97_21) := u_ldAT f_l0_eq (s_aload (i := .aload_n 0) (len := 1) hq_97 (by decide +kernel) rfl (.inr ⟨0, rfl, rfl, rfl⟩) : e_Sn 97 21 (o_load e_okR 0 22)) t_97_22
noncomputable def n_97_20 : e_Y := u_ld f_okI f_l2 n_97_21
theorem t_97_20 : e_Sn 97 20 (e_un n_97_20) := u_ldIT f_l2_eq (s_iload (i := .iload_n 2) (len := 1) hq_97 (by decide +kernel) rfl (.inr ⟨2, rfl, rfl, rfl⟩) : e_Sn 97 20 (o_load e_okI 2 21)) t_97_21
noncomputable def n_97_17 : e_Y := u_getf 17 0 (u_old (o_getf (e_f1 17 0) 20) n_97_20) n_97_20
theorem t_97_17 : e_Sn 97 17 (e_un n_97_17) := u_getfT (s_getf (C := er_17) (T := et_17) (N := 6) (ref := "PlateroomprinterModel$State") (index := 9) (ci := 17) (k := 0) hq_97 ho_97 ⟨rfl, by decide, ei_17, (List.mem_of_getElem? (i := 1789) (by decide +kernel)), .inl rfl⟩ (by decide +kernel) rfl : e_Sn 97 17 (o_getf (e_f1 17 0) 20)) t_97_20
noncomputable def n_97_16 : e_Y := u_ld f_okA f_l1 n_97_17
theorem t_97_16 : e_Sn 97 16 (e_un n_97_16) := u_ldAT f_l1_eq (s_aload (i := .aload_n 1) (len := 1) hq_97 (by decide +kernel) rfl (.inr ⟨1, rfl, rfl, rfl⟩) : e_Sn 97 16 (o_load e_okR 1 17)) t_97_17
noncomputable def n_97_13 : e_Y := u_jmp y_ge (u_old2 (o_clt 16 34) 16 n_97_16 n_97_34) n_97_16 n_97_34
theorem t_97_13 : e_Sn 97 13 (e_un n_97_13) := u_cltT rfl (s_cge (off := (21)) hq_97 (by decide +kernel) rfl rfl : e_Sn 97 13 (o_clt 16 34)) t_97_16 t_97_34
noncomputable def n_97_11 : e_Y := u_push (.inl 2147483660) n_97_13
theorem t_97_11 : e_Sn 97 11 (e_un n_97_11) := u_pushT (s_bipush (n := (12)) hq_97 (by decide +kernel) rfl ⟨by decide +kernel, by decide +kernel⟩ : e_Sn 97 11 (o_push (.inl 2147483660) 13)) t_97_13
noncomputable def n_97_10 : e_Y := u_ld f_okI f_l2 n_97_11
theorem t_97_10 : e_Sn 97 10 (e_un n_97_10) := u_ldIT f_l2_eq (s_iload (i := .iload_n 2) (len := 1) hq_97 (by decide +kernel) rfl (.inr ⟨2, rfl, rfl, rfl⟩) : e_Sn 97 10 (o_load e_okI 2 11)) t_97_11
noncomputable def n_97_9 : e_Y := u_st f_okI f_s2 n_97_10
theorem t_97_9 : e_Sn 97 9 (e_un n_97_9) := u_stIT (fun _ _ _ => f_s2_eq) (s_istore (i := .istore_n 2) (len := 1) hq_97 (by decide +kernel) rfl (.inr ⟨2, rfl, rfl, rfl⟩) : e_Sn 97 9 (o_store e_okI 2 10)) t_97_10
noncomputable def n_97_8 : e_Y := u_push (.inl 2147483648) n_97_9
theorem t_97_8 : e_Sn 97 8 (e_un n_97_8) := u_pushT (s_iconst (n := (0)) hq_97 (by decide +kernel) rfl ⟨by decide +kernel, by decide +kernel⟩ : e_Sn 97 8 (o_push (.inl 2147483648) 9)) t_97_9
noncomputable def n_97_7 : e_Y := u_st f_okA f_s1 n_97_8
theorem t_97_7 : e_Sn 97 7 (e_un n_97_7) := u_stAT (fun _ _ _ => f_s1_eq) (s_astore (i := .astore_n 1) (len := 1) hq_97 (by decide +kernel) rfl (.inr ⟨1, rfl, rfl, rfl⟩) : e_Sn 97 7 (o_store e_okR 1 8)) t_97_8
noncomputable def n_97_4 : e_Y := u_tab (o_callI 96 2 1 7)
theorem t_97_4 : e_Sn 97 4 (e_un n_97_4) := u_tabT (s_callI (index := 33) hq_97 ho_97 hy_96 hp_96 hc_96 hi_96 hd_96 (List.mem_of_getElem? (i := 2062) (by decide +kernel)) rfl rfl hs_96 (by decide +kernel) rfl : e_Sn 97 4 (o_callI 96 2 1 7))
noncomputable def n_97_3 : e_Y := u_old (o_dup 4) n_97_4
theorem t_97_3 : e_Sn 97 3 (e_un n_97_3) := u_oldT (s_dup hq_97 (by decide +kernel) rfl : e_Sn 97 3 (o_dup 4)) t_97_4 e_cg_dup
noncomputable def n_97_0 : e_Y := u_tab (o_new 17 6 ef_17 3)
theorem t_97_0 : e_Sn 97 0 (e_un n_97_0) := u_tabT (s_new (index := 10) (ci := 17) (N := 6) (C := er_17) (T := et_17) (ty0 := ey_17) (fv := eg_17) hq_97 ho_97 rfl ei_17 eo_17 (List.mem_of_getElem? (i := 2061) (by decide +kernel)) (List.mem_of_getElem? (i := 1782) (by decide +kernel)) (List.mem_of_getElem? (i := 156) (by decide +kernel)) eh_17 rfl (e_newrel ek_17) (by decide +kernel) rfl : e_Sn 97 0 (o_new 17 6 ef_17 3))
noncomputable def e_tb_97 : e_X := (e_br 7 (e_br 3 (e_lf 0 (e_un n_97_0)) (e_lf 3 (e_un n_97_3))) (e_br 10 (e_lf 7 (e_un n_97_7)) (e_lf 10 (e_un n_97_10))))
theorem e_tk_97 : e_Tb 97 e_tb_97 := (e_brT (e_brT (e_lfT t_97_0) (e_lfT t_97_3)) (e_brT (e_lfT t_97_7) (e_lfT t_97_10)))
theorem hq_105 : (e_ml[105]?).map (·.2.1) = some prog_50_method_18_code := rfl
theorem ho_105 : (e_ml[105]?).map (·.1.cls) = some "java/util/ArrayList" := rfl
theorem hr_105 : (e_ml[105]?).map (·.2.2.2) = some (some (.object "java/lang/Object")) := rfl
noncomputable def n_105_6 : e_Y := u_retA
theorem t_105_6 : e_Sn 105 6 (e_un n_105_6) := u_retAT (s_aret (.inl ⟨_, rfl⟩) hq_105 hr_105 (by decide +kernel) : e_Sn 105 6 (o_ret e_okR))
noncomputable def n_105_5 : e_Y := u_ald 3 (u_old (o_aldO 3 6) n_105_6) n_105_6
theorem t_105_5 : e_Sn 105 5 (e_un n_105_5) := u_aldOT (s_aald (tc := 0) rfl hq_105 (by decide +kernel) rfl : e_Sn 105 5 (o_aldO 3 6)) t_105_6
noncomputable def n_105_4 : e_Y := u_ld f_okI f_l1 n_105_5
theorem t_105_4 : e_Sn 105 4 (e_un n_105_4) := u_ldIT f_l1_eq (s_iload (i := .iload_n 1) (len := 1) hq_105 (by decide +kernel) rfl (.inr ⟨1, rfl, rfl, rfl⟩) : e_Sn 105 4 (o_load e_okI 1 5)) t_105_5
noncomputable def n_105_1 : e_Y := u_getf 19 0 (u_old (o_getf (e_f1 19 0) 4) n_105_4) n_105_4
theorem t_105_1 : e_Sn 105 1 (e_un n_105_1) := u_getfT (s_getf (C := er_19) (T := et_19) (N := 3) (ref := "java/util/ArrayList") (index := 9) (ci := 19) (k := 0) hq_105 ho_105 ⟨rfl, by decide, ei_19, (List.mem_of_getElem? (i := 1764) (by decide +kernel)), .inl rfl⟩ (by decide +kernel) rfl : e_Sn 105 1 (o_getf (e_f1 19 0) 4)) t_105_4
noncomputable def n_105_0 : e_Y := u_ld f_okA f_l0 n_105_1
theorem t_105_0 : e_Sn 105 0 (e_un n_105_0) := u_ldAT f_l0_eq (s_aload (i := .aload_n 0) (len := 1) hq_105 (by decide +kernel) rfl (.inr ⟨0, rfl, rfl, rfl⟩) : e_Sn 105 0 (o_load e_okR 0 1)) t_105_1
noncomputable def e_tb_105 : e_X := (e_lf 0 (e_un n_105_0))
theorem e_tk_105 : e_Tb 105 e_tb_105 := (e_lfT t_105_0)
theorem hq_115 : (e_ml[115]?).map (·.2.1) = some prog_60_method_11_code := rfl
theorem ho_115 : (e_ml[115]?).map (·.1.cls) = some "jdk/internal/util/Preconditions" := rfl
theorem hr_115 : (e_ml[115]?).map (·.2.2.2) = some (some .int) := rfl
noncomputable def n_115_17 : e_Y := u_retI
theorem t_115_17 : e_Sn 115 17 (e_un n_115_17) := u_retIT (s_iret hq_115 hr_115 (by decide +kernel) : e_Sn 115 17 (o_ret e_okI))
noncomputable def n_115_16 : e_Y := u_ld f_okI f_l0 n_115_17
theorem t_115_16 : e_Sn 115 16 (e_un n_115_16) := u_ldIT f_l0_eq (s_iload (i := .iload_n 0) (len := 1) hq_115 (by decide +kernel) rfl (.inr ⟨0, rfl, rfl, rfl⟩) : e_Sn 115 16 (o_load e_okI 0 17)) t_115_17
noncomputable def n_115_6 : e_Y := u_jmp y_ge (u_old2 (o_clt 16 9) 16 n_115_16 (u_at 9)) n_115_16 (u_at 9)
theorem t_115_6 : e_Sn 115 6 (e_un n_115_6) := u_cltT rfl (s_clt (off := (10)) hq_115 (by decide +kernel) rfl rfl : e_Sn 115 6 (o_clt 16 9)) t_115_16 u_atT
noncomputable def n_115_5 : e_Y := u_ld f_okI f_l1 n_115_6
theorem t_115_5 : e_Sn 115 5 (e_un n_115_5) := u_ldIT f_l1_eq (s_iload (i := .iload_n 1) (len := 1) hq_115 (by decide +kernel) rfl (.inr ⟨1, rfl, rfl, rfl⟩) : e_Sn 115 5 (o_load e_okI 1 6)) t_115_6
noncomputable def n_115_4 : e_Y := u_ld f_okI f_l0 n_115_5
theorem t_115_4 : e_Sn 115 4 (e_un n_115_4) := u_ldIT f_l0_eq (s_iload (i := .iload_n 0) (len := 1) hq_115 (by decide +kernel) rfl (.inr ⟨0, rfl, rfl, rfl⟩) : e_Sn 115 4 (o_load e_okI 0 5)) t_115_5
noncomputable def n_115_1 : e_Y := u_if y_ge0 (u_old2 (o_iflt 9 4) 9 (u_at 9) n_115_4) (u_at 9) n_115_4
theorem t_115_1 : e_Sn 115 1 (e_un n_115_1) := u_ifltT rfl (s_iflt (off := (8)) hq_115 (by decide +kernel) rfl rfl : e_Sn 115 1 (o_iflt 9 4)) u_atT t_115_4
noncomputable def n_115_0 : e_Y := u_ld f_okI f_l0 n_115_1
theorem t_115_0 : e_Sn 115 0 (e_un n_115_0) := u_ldIT f_l0_eq (s_iload (i := .iload_n 0) (len := 1) hq_115 (by decide +kernel) rfl (.inr ⟨0, rfl, rfl, rfl⟩) : e_Sn 115 0 (o_load e_okI 0 1)) t_115_1
noncomputable def e_tb_115 : e_X := (e_lf 0 (e_un n_115_0))
theorem e_tk_115 : e_Tb 115 e_tb_115 := (e_lfT t_115_0)
theorem hq_114 : (e_ml[114]?).map (·.2.1) = some prog_56_method_17_code := rfl
theorem ho_114 : (e_ml[114]?).map (·.1.cls) = some "java/util/Objects" := rfl
theorem hr_114 : (e_ml[114]?).map (·.2.2.2) = some (some .int) := rfl
noncomputable def n_114_6 : e_Y := u_retI
theorem t_114_6 : e_Sn 114 6 (e_un n_114_6) := u_retIT (s_iret hq_114 hr_114 (by decide +kernel) : e_Sn 114 6 (o_ret e_okI))
noncomputable def n_114_3 : e_Y := u_callS 115 3 22 3 n_115_0 n_114_6
theorem t_114_3 : e_Sn 114 3 (e_un n_114_3) := u_callST rfl (s_callS (index := 105) hq_114 ho_114 hy_115 hp_115 hc_115 hi_115 hd_115 (List.mem_of_getElem? (i := 2024) (by decide +kernel)) hs_115 (by decide +kernel) rfl : e_Sn 114 3 (o_callS 115 3 3 6)) t_115_0 t_114_6
noncomputable def n_114_2 : e_Y := u_push e_N n_114_3
theorem t_114_2 : e_Sn 114 2 (e_un n_114_2) := u_pushT (s_null hq_114 (by decide +kernel) rfl : e_Sn 114 2 (o_push e_N 3)) t_114_3
noncomputable def n_114_1 : e_Y := u_ld f_okI f_l1 n_114_2
theorem t_114_1 : e_Sn 114 1 (e_un n_114_1) := u_ldIT f_l1_eq (s_iload (i := .iload_n 1) (len := 1) hq_114 (by decide +kernel) rfl (.inr ⟨1, rfl, rfl, rfl⟩) : e_Sn 114 1 (o_load e_okI 1 2)) t_114_2
noncomputable def n_114_0 : e_Y := u_ld f_okI f_l0 n_114_1
theorem t_114_0 : e_Sn 114 0 (e_un n_114_0) := u_ldIT f_l0_eq (s_iload (i := .iload_n 0) (len := 1) hq_114 (by decide +kernel) rfl (.inr ⟨0, rfl, rfl, rfl⟩) : e_Sn 114 0 (o_load e_okI 0 1)) t_114_1
noncomputable def e_tb_114 : e_X := (e_lf 0 (e_un n_114_0))
theorem e_tk_114 : e_Tb 114 e_tb_114 := (e_lfT t_114_0)
theorem hq_107 : (e_ml[107]?).map (·.2.1) = some prog_50_method_20_code := rfl
theorem ho_107 : (e_ml[107]?).map (·.1.cls) = some "java/util/ArrayList" := rfl
theorem hr_107 : (e_ml[107]?).map (·.2.2.2) = some (some (.object "java/lang/Object")) := rfl
noncomputable def n_107_14 : e_Y := u_retA
theorem t_107_14 : e_Sn 107 14 (e_un n_107_14) := u_retAT (s_aret (.inl ⟨_, rfl⟩) hq_107 hr_107 (by decide +kernel) : e_Sn 107 14 (o_ret e_okR))
noncomputable def n_107_11 : e_Y := u_callV 19 105 2 21 2 n_105_0 n_107_14
theorem t_107_11 : e_Sn 107 11 (e_un n_107_11) := u_callVT rfl (s_callV (ci := 19) (C := er_19) (T := et_19) (N := 3) (index := 123) hq_107 ho_107 hy_105 hp_105 hc_105 hi_105 hd_105 (List.mem_of_getElem? (i := 2053) (by decide +kernel)) hs_105 (List.mem_of_getElem? (i := 2055) (by decide +kernel)) rfl (by decide +kernel) rfl : e_Sn 107 11 (o_callV (e_s1 19 105 2) 2 14)) t_105_0 t_107_14
noncomputable def n_107_10 : e_Y := u_ld f_okI f_l1 n_107_11
theorem t_107_10 : e_Sn 107 10 (e_un n_107_10) := u_ldIT f_l1_eq (s_iload (i := .iload_n 1) (len := 1) hq_107 (by decide +kernel) rfl (.inr ⟨1, rfl, rfl, rfl⟩) : e_Sn 107 10 (o_load e_okI 1 11)) t_107_11
noncomputable def n_107_9 : e_Y := u_ld f_okA f_l0 n_107_10
theorem t_107_9 : e_Sn 107 9 (e_un n_107_9) := u_ldAT f_l0_eq (s_aload (i := .aload_n 0) (len := 1) hq_107 (by decide +kernel) rfl (.inr ⟨0, rfl, rfl, rfl⟩) : e_Sn 107 9 (o_load e_okR 0 10)) t_107_10
noncomputable def n_107_8 : e_Y := u_pop n_107_9
theorem t_107_8 : e_Sn 107 8 (e_un n_107_8) := u_popT (s_pop hq_107 (by decide +kernel) rfl : e_Sn 107 8 (o_pop 9)) t_107_9
noncomputable def n_107_5 : e_Y := u_callS 114 2 21 2 n_114_0 n_107_8
theorem t_107_5 : e_Sn 107 5 (e_un n_107_5) := u_callST rfl (s_callS (index := 118) hq_107 ho_107 hy_114 hp_114 hc_114 hi_114 hd_114 (List.mem_of_getElem? (i := 2021) (by decide +kernel)) hs_114 (by decide +kernel) rfl : e_Sn 107 5 (o_callS 114 2 2 8)) t_114_0 t_107_8
noncomputable def n_107_2 : e_Y := u_getf 19 1 (u_old (o_getf (e_f1 19 1) 5) n_107_5) n_107_5
theorem t_107_2 : e_Sn 107 2 (e_un n_107_2) := u_getfT (s_getf (C := er_19) (T := et_19) (N := 3) (ref := "java/util/ArrayList") (index := 48) (ci := 19) (k := 1) hq_107 ho_107 ⟨rfl, by decide, ei_19, (List.mem_of_getElem? (i := 1767) (by decide +kernel)), .inl rfl⟩ (by decide +kernel) rfl : e_Sn 107 2 (o_getf (e_f1 19 1) 5)) t_107_5
noncomputable def n_107_1 : e_Y := u_ld f_okA f_l0 n_107_2
theorem t_107_1 : e_Sn 107 1 (e_un n_107_1) := u_ldAT f_l0_eq (s_aload (i := .aload_n 0) (len := 1) hq_107 (by decide +kernel) rfl (.inr ⟨0, rfl, rfl, rfl⟩) : e_Sn 107 1 (o_load e_okR 0 2)) t_107_2
noncomputable def n_107_0 : e_Y := u_ld f_okI f_l1 n_107_1
theorem t_107_0 : e_Sn 107 0 (e_un n_107_0) := u_ldIT f_l1_eq (s_iload (i := .iload_n 1) (len := 1) hq_107 (by decide +kernel) rfl (.inr ⟨1, rfl, rfl, rfl⟩) : e_Sn 107 0 (o_load e_okI 1 1)) t_107_1
noncomputable def e_tb_107 : e_X := (e_lf 0 (e_un n_107_0))
theorem e_tk_107 : e_Tb 107 e_tb_107 := (e_lfT t_107_0)
theorem hq_112 : (e_ml[112]?).map (·.2.1) = some prog_50_method_23_code := rfl
theorem ho_112 : (e_ml[112]?).map (·.1.cls) = some "java/util/ArrayList" := rfl
theorem hr_112 : (e_ml[112]?).map (·.2.2.2) = some (some (.object "java/lang/Object")) := rfl
noncomputable def n_112_23 : e_Y := u_retA
theorem t_112_23 : e_Sn 112 23 (e_un n_112_23) := u_retAT (s_aret (.inl ⟨_, rfl⟩) hq_112 hr_112 (by decide +kernel) : e_Sn 112 23 (o_ret e_okR))
noncomputable def n_112_22 : e_Y := u_ld f_okA f_l3 n_112_23
theorem t_112_22 : e_Sn 112 22 (e_un n_112_22) := u_ldAT f_l3_eq (s_aload (i := .aload_n 3) (len := 1) hq_112 (by decide +kernel) rfl (.inr ⟨3, rfl, rfl, rfl⟩) : e_Sn 112 22 (o_load e_okR 3 23)) t_112_23
noncomputable def n_112_21 : e_Y := u_old (o_astR 3 (fun _ => false) 22) n_112_22
theorem t_112_21 : e_Sn 112 21 (e_un n_112_21) := u_oldT (s_aast (tc := 0) (E := "java/lang/Object") hq_112 rfl (by decide) (fun k hk => by cases hk) (by decide +kernel) rfl : e_Sn 112 21 (o_astR 3 (fun _ => false) 22)) t_112_22 (e_cg_astR 3 (fun _ => false))
noncomputable def n_112_20 : e_Y := u_ld f_okA f_l2 n_112_21
theorem t_112_20 : e_Sn 112 20 (e_un n_112_20) := u_ldAT f_l2_eq (s_aload (i := .aload_n 2) (len := 1) hq_112 (by decide +kernel) rfl (.inr ⟨2, rfl, rfl, rfl⟩) : e_Sn 112 20 (o_load e_okR 2 21)) t_112_21
noncomputable def n_112_19 : e_Y := u_ld f_okI f_l1 n_112_20
theorem t_112_19 : e_Sn 112 19 (e_un n_112_19) := u_ldIT f_l1_eq (s_iload (i := .iload_n 1) (len := 1) hq_112 (by decide +kernel) rfl (.inr ⟨1, rfl, rfl, rfl⟩) : e_Sn 112 19 (o_load e_okI 1 20)) t_112_20
noncomputable def n_112_16 : e_Y := u_getf 19 0 (u_old (o_getf (e_f1 19 0) 19) n_112_19) n_112_19
theorem t_112_16 : e_Sn 112 16 (e_un n_112_16) := u_getfT (s_getf (C := er_19) (T := et_19) (N := 3) (ref := "java/util/ArrayList") (index := 9) (ci := 19) (k := 0) hq_112 ho_112 ⟨rfl, by decide, ei_19, (List.mem_of_getElem? (i := 1764) (by decide +kernel)), .inl rfl⟩ (by decide +kernel) rfl : e_Sn 112 16 (o_getf (e_f1 19 0) 19)) t_112_19
noncomputable def n_112_15 : e_Y := u_ld f_okA f_l0 n_112_16
theorem t_112_15 : e_Sn 112 15 (e_un n_112_15) := u_ldAT f_l0_eq (s_aload (i := .aload_n 0) (len := 1) hq_112 (by decide +kernel) rfl (.inr ⟨0, rfl, rfl, rfl⟩) : e_Sn 112 15 (o_load e_okR 0 16)) t_112_16
noncomputable def n_112_14 : e_Y := u_st f_okA f_s3 n_112_15
theorem t_112_14 : e_Sn 112 14 (e_un n_112_14) := u_stAT (fun _ _ _ => f_s3_eq) (s_astore (i := .astore_n 3) (len := 1) hq_112 (by decide +kernel) rfl (.inr ⟨3, rfl, rfl, rfl⟩) : e_Sn 112 14 (o_store e_okR 3 15)) t_112_15
noncomputable def n_112_11 : e_Y := u_callV 19 105 2 21 2 n_105_0 n_112_14
theorem t_112_11 : e_Sn 112 11 (e_un n_112_11) := u_callVT rfl (s_callV (ci := 19) (C := er_19) (T := et_19) (N := 3) (index := 123) hq_112 ho_112 hy_105 hp_105 hc_105 hi_105 hd_105 (List.mem_of_getElem? (i := 2053) (by decide +kernel)) hs_105 (List.mem_of_getElem? (i := 2055) (by decide +kernel)) rfl (by decide +kernel) rfl : e_Sn 112 11 (o_callV (e_s1 19 105 2) 2 14)) t_105_0 t_112_14
noncomputable def n_112_10 : e_Y := u_ld f_okI f_l1 n_112_11
theorem t_112_10 : e_Sn 112 10 (e_un n_112_10) := u_ldIT f_l1_eq (s_iload (i := .iload_n 1) (len := 1) hq_112 (by decide +kernel) rfl (.inr ⟨1, rfl, rfl, rfl⟩) : e_Sn 112 10 (o_load e_okI 1 11)) t_112_11
noncomputable def n_112_9 : e_Y := u_ld f_okA f_l0 n_112_10
theorem t_112_9 : e_Sn 112 9 (e_un n_112_9) := u_ldAT f_l0_eq (s_aload (i := .aload_n 0) (len := 1) hq_112 (by decide +kernel) rfl (.inr ⟨0, rfl, rfl, rfl⟩) : e_Sn 112 9 (o_load e_okR 0 10)) t_112_10
noncomputable def n_112_8 : e_Y := u_pop n_112_9
theorem t_112_8 : e_Sn 112 8 (e_un n_112_8) := u_popT (s_pop hq_112 (by decide +kernel) rfl : e_Sn 112 8 (o_pop 9)) t_112_9
noncomputable def n_112_5 : e_Y := u_callS 114 2 21 2 n_114_0 n_112_8
theorem t_112_5 : e_Sn 112 5 (e_un n_112_5) := u_callST rfl (s_callS (index := 118) hq_112 ho_112 hy_114 hp_114 hc_114 hi_114 hd_114 (List.mem_of_getElem? (i := 2021) (by decide +kernel)) hs_114 (by decide +kernel) rfl : e_Sn 112 5 (o_callS 114 2 2 8)) t_114_0 t_112_8
noncomputable def n_112_2 : e_Y := u_getf 19 1 (u_old (o_getf (e_f1 19 1) 5) n_112_5) n_112_5
theorem t_112_2 : e_Sn 112 2 (e_un n_112_2) := u_getfT (s_getf (C := er_19) (T := et_19) (N := 3) (ref := "java/util/ArrayList") (index := 48) (ci := 19) (k := 1) hq_112 ho_112 ⟨rfl, by decide, ei_19, (List.mem_of_getElem? (i := 1767) (by decide +kernel)), .inl rfl⟩ (by decide +kernel) rfl : e_Sn 112 2 (o_getf (e_f1 19 1) 5)) t_112_5
noncomputable def n_112_1 : e_Y := u_ld f_okA f_l0 n_112_2
theorem t_112_1 : e_Sn 112 1 (e_un n_112_1) := u_ldAT f_l0_eq (s_aload (i := .aload_n 0) (len := 1) hq_112 (by decide +kernel) rfl (.inr ⟨0, rfl, rfl, rfl⟩) : e_Sn 112 1 (o_load e_okR 0 2)) t_112_2
noncomputable def n_112_0 : e_Y := u_ld f_okI f_l1 n_112_1
theorem t_112_0 : e_Sn 112 0 (e_un n_112_0) := u_ldIT f_l1_eq (s_iload (i := .iload_n 1) (len := 1) hq_112 (by decide +kernel) rfl (.inr ⟨1, rfl, rfl, rfl⟩) : e_Sn 112 0 (o_load e_okI 1 1)) t_112_1
noncomputable def e_tb_112 : e_X := (e_lf 0 (e_un n_112_0))
theorem e_tk_112 : e_Tb 112 e_tb_112 := (e_lfT t_112_0)
theorem hq_73 : (e_ml[73]?).map (·.2.1) = some prog_17_method_2_code := rfl
theorem ho_73 : (e_ml[73]?).map (·.1.cls) = some "PlateroomprinterModel$Machine" := rfl
theorem hr_73 : (e_ml[73]?).map (·.2.2.2) = some (some (.object "PlateroomprinterModel$Machine")) := rfl
noncomputable def n_73_258 : e_Y := u_retA
theorem t_73_258 : e_Sn 73 258 (e_un n_73_258) := u_retAT (s_aret (.inl ⟨_, rfl⟩) hq_73 hr_73 (by decide +kernel) : e_Sn 73 258 (o_ret e_okR))
noncomputable def n_73_257 : e_Y := u_ld f_okA f_l1 n_73_258
theorem t_73_257 : e_Sn 73 257 (e_un n_73_257) := u_ldAT f_l1_eq (s_aload (i := .aload_n 1) (len := 1) hq_73 (by decide +kernel) rfl (.inr ⟨1, rfl, rfl, rfl⟩) : e_Sn 73 257 (o_load e_okR 1 258)) t_73_258
noncomputable def n_73_254 : e_Y := u_old (o_putf (e_f1 14 12) e_okR 257) n_73_257
theorem t_73_254 : e_Sn 73 254 (e_un n_73_254) := u_oldT (s_putf (ty0 := ey_14) (ok := e_okR) (C := er_14) (T := et_14) (N := 13) (ref := "PlateroomprinterModel$Machine") (index := 44) (ci := 14) (k := 12) hq_73 ho_73 ⟨rfl, by decide, ei_14, (List.mem_of_getElem? (i := 1926) (by decide +kernel)), .inl rfl⟩ eo_14 en_14 e_oksA (.inl rfl) (by decide +kernel) rfl : e_Sn 73 254 (o_putf (e_f1 14 12) e_okR 257)) t_73_257 (e_cg_putf (e_f1 14 12) e_okR)
noncomputable def n_73_251 : e_Y := u_callS 61 3 22 1 n_61_0 n_73_254
theorem t_73_251 : e_Sn 73 251 (e_un n_73_251) := u_callST rfl (s_callSN (host := "PlateroomprinterModel") (index := 91) hq_73 ho_73 hy_61 hp_61 hc_61 hi_61 hd_61 (List.mem_of_getElem? (i := 2107) (by decide +kernel)) hs_61 (by decide +kernel) rfl : e_Sn 73 251 (o_callS 61 3 1 254)) t_61_0 t_73_254
noncomputable def n_73_248 : e_Y := u_getf 14 12 (u_old (o_getf (e_f1 14 12) 251) n_73_251) n_73_251
theorem t_73_248 : e_Sn 73 248 (e_un n_73_248) := u_getfT (s_getf (C := er_14) (T := et_14) (N := 13) (ref := "PlateroomprinterModel$Machine") (index := 44) (ci := 14) (k := 12) hq_73 ho_73 ⟨rfl, by decide, ei_14, (List.mem_of_getElem? (i := 1926) (by decide +kernel)), .inl rfl⟩ (by decide +kernel) rfl : e_Sn 73 248 (o_getf (e_f1 14 12) 251)) t_73_251
noncomputable def n_73_247 : e_Y := u_ld f_okA f_l0 n_73_248
theorem t_73_247 : e_Sn 73 247 (e_un n_73_247) := u_ldAT f_l0_eq (s_aload (i := .aload_n 0) (len := 1) hq_73 (by decide +kernel) rfl (.inr ⟨0, rfl, rfl, rfl⟩) : e_Sn 73 247 (o_load e_okR 0 248)) t_73_248
noncomputable def n_73_246 : e_Y := u_ld f_okA f_l1 n_73_247
theorem t_73_246 : e_Sn 73 246 (e_un n_73_246) := u_ldAT f_l1_eq (s_aload (i := .aload_n 1) (len := 1) hq_73 (by decide +kernel) rfl (.inr ⟨1, rfl, rfl, rfl⟩) : e_Sn 73 246 (o_load e_okR 1 247)) t_73_247
noncomputable def n_73_243 : e_Y := u_old (o_putf (e_f1 14 11) e_okI 246) n_73_246
theorem t_73_243 : e_Sn 73 243 (e_un n_73_243) := u_oldT (s_putf (ty0 := ey_14) (ok := e_okI) (C := er_14) (T := et_14) (N := 13) (ref := "PlateroomprinterModel$Machine") (index := 88) (ci := 14) (k := 11) hq_73 ho_73 ⟨rfl, by decide, ei_14, (List.mem_of_getElem? (i := 1923) (by decide +kernel)), .inl rfl⟩ eo_14 en_14 e_oksI (.inl rfl) (by decide +kernel) rfl : e_Sn 73 243 (o_putf (e_f1 14 11) e_okI 246)) t_73_246 (e_cg_putf (e_f1 14 11) e_okI)
noncomputable def n_73_240 : e_Y := u_getf 14 11 (u_old (o_getf (e_f1 14 11) 243) n_73_243) n_73_243
theorem t_73_240 : e_Sn 73 240 (e_un n_73_240) := u_getfT (s_getf (C := er_14) (T := et_14) (N := 13) (ref := "PlateroomprinterModel$Machine") (index := 88) (ci := 14) (k := 11) hq_73 ho_73 ⟨rfl, by decide, ei_14, (List.mem_of_getElem? (i := 1923) (by decide +kernel)), .inl rfl⟩ (by decide +kernel) rfl : e_Sn 73 240 (o_getf (e_f1 14 11) 243)) t_73_243
noncomputable def n_73_239 : e_Y := u_ld f_okA f_l0 n_73_240
theorem t_73_239 : e_Sn 73 239 (e_un n_73_239) := u_ldAT f_l0_eq (s_aload (i := .aload_n 0) (len := 1) hq_73 (by decide +kernel) rfl (.inr ⟨0, rfl, rfl, rfl⟩) : e_Sn 73 239 (o_load e_okR 0 240)) t_73_240
noncomputable def n_73_238 : e_Y := u_ld f_okA f_l1 n_73_239
theorem t_73_238 : e_Sn 73 238 (e_un n_73_238) := u_ldAT f_l1_eq (s_aload (i := .aload_n 1) (len := 1) hq_73 (by decide +kernel) rfl (.inr ⟨1, rfl, rfl, rfl⟩) : e_Sn 73 238 (o_load e_okR 1 239)) t_73_239
noncomputable def n_73_235 : e_Y := u_old (o_putf (e_f1 14 10) e_okI 238) n_73_238
theorem t_73_235 : e_Sn 73 235 (e_un n_73_235) := u_oldT (s_putf (ty0 := ey_14) (ok := e_okI) (C := er_14) (T := et_14) (N := 13) (ref := "PlateroomprinterModel$Machine") (index := 85) (ci := 14) (k := 10) hq_73 ho_73 ⟨rfl, by decide, ei_14, (List.mem_of_getElem? (i := 1920) (by decide +kernel)), .inl rfl⟩ eo_14 en_14 e_oksI (.inl rfl) (by decide +kernel) rfl : e_Sn 73 235 (o_putf (e_f1 14 10) e_okI 238)) t_73_238 (e_cg_putf (e_f1 14 10) e_okI)
noncomputable def n_73_232 : e_Y := u_getf 14 10 (u_old (o_getf (e_f1 14 10) 235) n_73_235) n_73_235
theorem t_73_232 : e_Sn 73 232 (e_un n_73_232) := u_getfT (s_getf (C := er_14) (T := et_14) (N := 13) (ref := "PlateroomprinterModel$Machine") (index := 85) (ci := 14) (k := 10) hq_73 ho_73 ⟨rfl, by decide, ei_14, (List.mem_of_getElem? (i := 1920) (by decide +kernel)), .inl rfl⟩ (by decide +kernel) rfl : e_Sn 73 232 (o_getf (e_f1 14 10) 235)) t_73_235
noncomputable def n_73_231 : e_Y := u_ld f_okA f_l0 n_73_232
theorem t_73_231 : e_Sn 73 231 (e_un n_73_231) := u_ldAT f_l0_eq (s_aload (i := .aload_n 0) (len := 1) hq_73 (by decide +kernel) rfl (.inr ⟨0, rfl, rfl, rfl⟩) : e_Sn 73 231 (o_load e_okR 0 232)) t_73_232
noncomputable def n_73_230 : e_Y := u_ld f_okA f_l1 n_73_231
theorem t_73_230 : e_Sn 73 230 (e_un n_73_230) := u_ldAT f_l1_eq (s_aload (i := .aload_n 1) (len := 1) hq_73 (by decide +kernel) rfl (.inr ⟨1, rfl, rfl, rfl⟩) : e_Sn 73 230 (o_load e_okR 1 231)) t_73_231
noncomputable def n_73_227 : e_Y := u_old (o_putf (e_f1 14 9) e_okI 230) n_73_230
theorem t_73_227 : e_Sn 73 227 (e_un n_73_227) := u_oldT (s_putf (ty0 := ey_14) (ok := e_okI) (C := er_14) (T := et_14) (N := 13) (ref := "PlateroomprinterModel$Machine") (index := 82) (ci := 14) (k := 9) hq_73 ho_73 ⟨rfl, by decide, ei_14, (List.mem_of_getElem? (i := 1917) (by decide +kernel)), .inl rfl⟩ eo_14 en_14 e_oksI (.inl rfl) (by decide +kernel) rfl : e_Sn 73 227 (o_putf (e_f1 14 9) e_okI 230)) t_73_230 (e_cg_putf (e_f1 14 9) e_okI)
noncomputable def n_73_224 : e_Y := u_getf 14 9 (u_old (o_getf (e_f1 14 9) 227) n_73_227) n_73_227
theorem t_73_224 : e_Sn 73 224 (e_un n_73_224) := u_getfT (s_getf (C := er_14) (T := et_14) (N := 13) (ref := "PlateroomprinterModel$Machine") (index := 82) (ci := 14) (k := 9) hq_73 ho_73 ⟨rfl, by decide, ei_14, (List.mem_of_getElem? (i := 1917) (by decide +kernel)), .inl rfl⟩ (by decide +kernel) rfl : e_Sn 73 224 (o_getf (e_f1 14 9) 227)) t_73_227
noncomputable def n_73_223 : e_Y := u_ld f_okA f_l0 n_73_224
theorem t_73_223 : e_Sn 73 223 (e_un n_73_223) := u_ldAT f_l0_eq (s_aload (i := .aload_n 0) (len := 1) hq_73 (by decide +kernel) rfl (.inr ⟨0, rfl, rfl, rfl⟩) : e_Sn 73 223 (o_load e_okR 0 224)) t_73_224
noncomputable def n_73_222 : e_Y := u_ld f_okA f_l1 n_73_223
theorem t_73_222 : e_Sn 73 222 (e_un n_73_222) := u_ldAT f_l1_eq (s_aload (i := .aload_n 1) (len := 1) hq_73 (by decide +kernel) rfl (.inr ⟨1, rfl, rfl, rfl⟩) : e_Sn 73 222 (o_load e_okR 1 223)) t_73_223
noncomputable def n_73_219 : e_Y := u_old (o_putf (e_f1 14 8) e_okI 222) n_73_222
theorem t_73_219 : e_Sn 73 219 (e_un n_73_219) := u_oldT (s_putf (ty0 := ey_14) (ok := e_okI) (C := er_14) (T := et_14) (N := 13) (ref := "PlateroomprinterModel$Machine") (index := 78) (ci := 14) (k := 8) hq_73 ho_73 ⟨rfl, by decide, ei_14, (List.mem_of_getElem? (i := 1914) (by decide +kernel)), .inl rfl⟩ eo_14 en_14 e_oksI (.inl rfl) (by decide +kernel) rfl : e_Sn 73 219 (o_putf (e_f1 14 8) e_okI 222)) t_73_222 (e_cg_putf (e_f1 14 8) e_okI)
noncomputable def n_73_216 : e_Y := u_getf 14 8 (u_old (o_getf (e_f1 14 8) 219) n_73_219) n_73_219
theorem t_73_216 : e_Sn 73 216 (e_un n_73_216) := u_getfT (s_getf (C := er_14) (T := et_14) (N := 13) (ref := "PlateroomprinterModel$Machine") (index := 78) (ci := 14) (k := 8) hq_73 ho_73 ⟨rfl, by decide, ei_14, (List.mem_of_getElem? (i := 1914) (by decide +kernel)), .inl rfl⟩ (by decide +kernel) rfl : e_Sn 73 216 (o_getf (e_f1 14 8) 219)) t_73_219
noncomputable def n_73_215 : e_Y := u_ld f_okA f_l0 n_73_216
theorem t_73_215 : e_Sn 73 215 (e_un n_73_215) := u_ldAT f_l0_eq (s_aload (i := .aload_n 0) (len := 1) hq_73 (by decide +kernel) rfl (.inr ⟨0, rfl, rfl, rfl⟩) : e_Sn 73 215 (o_load e_okR 0 216)) t_73_216
noncomputable def n_73_214 : e_Y := u_ld f_okA f_l1 n_73_215
theorem t_73_214 : e_Sn 73 214 (e_un n_73_214) := u_ldAT f_l1_eq (s_aload (i := .aload_n 1) (len := 1) hq_73 (by decide +kernel) rfl (.inr ⟨1, rfl, rfl, rfl⟩) : e_Sn 73 214 (o_load e_okR 1 215)) t_73_215
noncomputable def n_73_211 : e_Y := u_old (o_putf (e_f1 14 7) e_okR 214) n_73_214
theorem t_73_211 : e_Sn 73 211 (e_un n_73_211) := u_oldT (s_putf (ty0 := ey_14) (ok := e_okR) (C := er_14) (T := et_14) (N := 13) (ref := "PlateroomprinterModel$Machine") (index := 75) (ci := 14) (k := 7) hq_73 ho_73 ⟨rfl, by decide, ei_14, (List.mem_of_getElem? (i := 1911) (by decide +kernel)), .inl rfl⟩ eo_14 en_14 e_oksA (.inl rfl) (by decide +kernel) rfl : e_Sn 73 211 (o_putf (e_f1 14 7) e_okR 214)) t_73_214 (e_cg_putf (e_f1 14 7) e_okR)
noncomputable def n_73_208 : e_Y := u_getf 14 7 (u_old (o_getf (e_f1 14 7) 211) n_73_211) n_73_211
theorem t_73_208 : e_Sn 73 208 (e_un n_73_208) := u_getfT (s_getf (C := er_14) (T := et_14) (N := 13) (ref := "PlateroomprinterModel$Machine") (index := 75) (ci := 14) (k := 7) hq_73 ho_73 ⟨rfl, by decide, ei_14, (List.mem_of_getElem? (i := 1911) (by decide +kernel)), .inl rfl⟩ (by decide +kernel) rfl : e_Sn 73 208 (o_getf (e_f1 14 7) 211)) t_73_211
noncomputable def n_73_207 : e_Y := u_ld f_okA f_l0 n_73_208
theorem t_73_207 : e_Sn 73 207 (e_un n_73_207) := u_ldAT f_l0_eq (s_aload (i := .aload_n 0) (len := 1) hq_73 (by decide +kernel) rfl (.inr ⟨0, rfl, rfl, rfl⟩) : e_Sn 73 207 (o_load e_okR 0 208)) t_73_208
noncomputable def n_73_206 : e_Y := u_ld f_okA f_l1 n_73_207
theorem t_73_206 : e_Sn 73 206 (e_un n_73_206) := u_ldAT f_l1_eq (s_aload (i := .aload_n 1) (len := 1) hq_73 (by decide +kernel) rfl (.inr ⟨1, rfl, rfl, rfl⟩) : e_Sn 73 206 (o_load e_okR 1 207)) t_73_207
noncomputable def n_73_203 : e_Y := u_old (o_putf (e_f1 14 6) e_okR 206) n_73_206
theorem t_73_203 : e_Sn 73 203 (e_un n_73_203) := u_oldT (s_putf (ty0 := ey_14) (ok := e_okR) (C := er_14) (T := et_14) (N := 13) (ref := "PlateroomprinterModel$Machine") (index := 40) (ci := 14) (k := 6) hq_73 ho_73 ⟨rfl, by decide, ei_14, (List.mem_of_getElem? (i := 1908) (by decide +kernel)), .inl rfl⟩ eo_14 en_14 e_oksA (.inl rfl) (by decide +kernel) rfl : e_Sn 73 203 (o_putf (e_f1 14 6) e_okR 206)) t_73_206 (e_cg_putf (e_f1 14 6) e_okR)
noncomputable def n_73_200 : e_Y := u_callS 62 3 22 1 n_62_0 n_73_203
theorem t_73_200 : e_Sn 73 200 (e_un n_73_200) := u_callST rfl (s_callSN (host := "PlateroomprinterModel") (index := 71) hq_73 ho_73 hy_62 hp_62 hc_62 hi_62 hd_62 (List.mem_of_getElem? (i := 2106) (by decide +kernel)) hs_62 (by decide +kernel) rfl : e_Sn 73 200 (o_callS 62 3 1 203)) t_62_0 t_73_203
noncomputable def n_73_197 : e_Y := u_getf 14 6 (u_old (o_getf (e_f1 14 6) 200) n_73_200) n_73_200
theorem t_73_197 : e_Sn 73 197 (e_un n_73_197) := u_getfT (s_getf (C := er_14) (T := et_14) (N := 13) (ref := "PlateroomprinterModel$Machine") (index := 40) (ci := 14) (k := 6) hq_73 ho_73 ⟨rfl, by decide, ei_14, (List.mem_of_getElem? (i := 1908) (by decide +kernel)), .inl rfl⟩ (by decide +kernel) rfl : e_Sn 73 197 (o_getf (e_f1 14 6) 200)) t_73_200
noncomputable def n_73_196 : e_Y := u_ld f_okA f_l0 n_73_197
theorem t_73_196 : e_Sn 73 196 (e_un n_73_196) := u_ldAT f_l0_eq (s_aload (i := .aload_n 0) (len := 1) hq_73 (by decide +kernel) rfl (.inr ⟨0, rfl, rfl, rfl⟩) : e_Sn 73 196 (o_load e_okR 0 197)) t_73_197
noncomputable def n_73_195 : e_Y := u_ld f_okA f_l1 n_73_196
theorem t_73_195 : e_Sn 73 195 (e_un n_73_195) := u_ldAT f_l1_eq (s_aload (i := .aload_n 1) (len := 1) hq_73 (by decide +kernel) rfl (.inr ⟨1, rfl, rfl, rfl⟩) : e_Sn 73 195 (o_load e_okR 1 196)) t_73_196
noncomputable def n_73_167 : e_Y := u_jmp y_ge (u_old2 (o_clt 170 195) 170 (u_at 170) n_73_195) (u_at 170) n_73_195
theorem t_73_167 : e_Sn 73 167 (e_un n_73_167) := u_cltT rfl (s_cge (off := (28)) hq_73 (by decide +kernel) rfl rfl : e_Sn 73 167 (o_clt 170 195)) u_atT t_73_195
noncomputable def n_73_164 : e_Y := u_callV 19 113 1 20 1 n_113_0 n_73_167
theorem t_73_164 : e_Sn 73 164 (e_un n_73_164) := u_callVT rfl (s_callV (ci := 19) (C := er_19) (T := et_19) (N := 3) (index := 53) hq_73 ho_73 hy_113 hp_113 hc_113 hi_113 hd_113 (List.mem_of_getElem? (i := 2048) (by decide +kernel)) hs_113 (List.mem_of_getElem? (i := 2002) (by decide +kernel)) rfl (by decide +kernel) rfl : e_Sn 73 164 (o_callV (e_s1 19 113 1) 1 167)) t_113_0 t_73_167
noncomputable def n_73_161 : e_Y := u_getf 14 5 (u_old (o_getf (e_f1 14 5) 164) n_73_164) n_73_164
theorem t_73_161 : e_Sn 73 161 (e_un n_73_161) := u_getfT (s_getf (C := er_14) (T := et_14) (N := 13) (ref := "PlateroomprinterModel$Machine") (index := 37) (ci := 14) (k := 5) hq_73 ho_73 ⟨rfl, by decide, ei_14, (List.mem_of_getElem? (i := 1905) (by decide +kernel)), .inl rfl⟩ (by decide +kernel) rfl : e_Sn 73 161 (o_getf (e_f1 14 5) 164)) t_73_164
noncomputable def n_73_160 : e_Y := u_ld f_okA f_l0 n_73_161
theorem t_73_160 : e_Sn 73 160 (e_un n_73_160) := u_ldAT f_l0_eq (s_aload (i := .aload_n 0) (len := 1) hq_73 (by decide +kernel) rfl (.inr ⟨0, rfl, rfl, rfl⟩) : e_Sn 73 160 (o_load e_okR 0 161)) t_73_161
noncomputable def n_73_159 : e_Y := u_ld f_okI f_l2 n_73_160
theorem t_73_159 : e_Sn 73 159 (e_un n_73_159) := u_ldIT f_l2_eq (s_iload (i := .iload_n 2) (len := 1) hq_73 (by decide +kernel) rfl (.inr ⟨2, rfl, rfl, rfl⟩) : e_Sn 73 159 (o_load e_okI 2 160)) t_73_160
noncomputable def n_73_158 : e_Y := u_st f_okI f_s2 n_73_159
theorem t_73_158 : e_Sn 73 158 (e_un n_73_158) := u_stIT (fun _ _ _ => f_s2_eq) (s_istore (i := .istore_n 2) (len := 1) hq_73 (by decide +kernel) rfl (.inr ⟨2, rfl, rfl, rfl⟩) : e_Sn 73 158 (o_store e_okI 2 159)) t_73_159
noncomputable def n_73_157 : e_Y := u_push (.inl 2147483648) n_73_158
theorem t_73_157 : e_Sn 73 157 (e_un n_73_157) := u_pushT (s_iconst (n := (0)) hq_73 (by decide +kernel) rfl ⟨by decide +kernel, by decide +kernel⟩ : e_Sn 73 157 (o_push (.inl 2147483648) 158)) t_73_158
noncomputable def n_73_154 : e_Y := (u_at 126)
theorem t_73_154 : e_Sn 73 154 (e_un n_73_154) := u_gotoT (s_goto (off := (-28)) hq_73 (by decide +kernel) rfl : e_Sn 73 154 (o_goto 126)) u_atT
noncomputable def n_73_151 : e_Y := u_inc f_l2 f_s2 1 n_73_154
theorem t_73_151 : e_Sn 73 151 (e_un n_73_151) := u_incT f_l2_eq (fun _ _ _ => f_s2_eq) (s_iinc (zz := (1)) hq_73 (by decide +kernel) rfl (by decide +kernel) ⟨by decide, by decide⟩ : e_Sn 73 151 (o_iinc 2 1 154)) t_73_154
noncomputable def n_73_150 : e_Y := u_pop n_73_151
theorem t_73_150 : e_Sn 73 150 (e_un n_73_150) := u_popT (s_pop hq_73 (by decide +kernel) rfl : e_Sn 73 150 (o_pop 151)) t_73_151
noncomputable def n_73_147 : e_Y := u_callV 19 112 4 23 3 n_112_0 n_73_150
theorem t_73_147 : e_Sn 73 147 (e_un n_73_147) := u_callVT rfl (s_callV (ci := 19) (C := er_19) (T := et_19) (N := 3) (index := 65) hq_73 ho_73 hy_112 hp_112 hc_112 hi_112 hd_112 (List.mem_of_getElem? (i := 2101) (by decide +kernel)) hs_112 (List.mem_of_getElem? (i := 2103) (by decide +kernel)) rfl (by decide +kernel) rfl : e_Sn 73 147 (o_callV (e_s1 19 112 4) 3 150)) t_112_0 t_73_150
noncomputable def n_73_144 : e_Y := u_old (o_cast 19 147) n_73_147
theorem t_73_144 : e_Sn 73 144 (e_un n_73_144) := u_oldT (s_cast (index := 9) hq_73 ho_73 (List.mem_of_getElem? (i := 1750) (by decide +kernel)) (.inl ⟨by decide, rfl⟩) (by decide +kernel) rfl : e_Sn 73 144 (o_cast 19 147)) t_73_147 (e_cg_cast 19)
noncomputable def n_73_141 : e_Y := u_callV 19 107 2 21 2 n_107_0 n_73_144
theorem t_73_141 : e_Sn 73 141 (e_un n_73_141) := u_callVT rfl (s_callV (ci := 19) (C := er_19) (T := et_19) (N := 3) (index := 57) hq_73 ho_73 hy_107 hp_107 hc_107 hi_107 hd_107 (List.mem_of_getElem? (i := 2049) (by decide +kernel)) hs_107 (List.mem_of_getElem? (i := 2051) (by decide +kernel)) rfl (by decide +kernel) rfl : e_Sn 73 141 (o_callV (e_s1 19 107 2) 2 144)) t_107_0 t_73_144
noncomputable def n_73_140 : e_Y := u_ld f_okI f_l2 n_73_141
theorem t_73_140 : e_Sn 73 140 (e_un n_73_140) := u_ldIT f_l2_eq (s_iload (i := .iload_n 2) (len := 1) hq_73 (by decide +kernel) rfl (.inr ⟨2, rfl, rfl, rfl⟩) : e_Sn 73 140 (o_load e_okI 2 141)) t_73_141
noncomputable def n_73_137 : e_Y := u_getf 14 4 (u_old (o_getf (e_f1 14 4) 140) n_73_140) n_73_140
theorem t_73_137 : e_Sn 73 137 (e_un n_73_137) := u_getfT (s_getf (C := er_14) (T := et_14) (N := 13) (ref := "PlateroomprinterModel$Machine") (index := 34) (ci := 14) (k := 4) hq_73 ho_73 ⟨rfl, by decide, ei_14, (List.mem_of_getElem? (i := 1902) (by decide +kernel)), .inl rfl⟩ (by decide +kernel) rfl : e_Sn 73 137 (o_getf (e_f1 14 4) 140)) t_73_140
noncomputable def n_73_136 : e_Y := u_ld f_okA f_l0 n_73_137
theorem t_73_136 : e_Sn 73 136 (e_un n_73_136) := u_ldAT f_l0_eq (s_aload (i := .aload_n 0) (len := 1) hq_73 (by decide +kernel) rfl (.inr ⟨0, rfl, rfl, rfl⟩) : e_Sn 73 136 (o_load e_okR 0 137)) t_73_137
noncomputable def n_73_135 : e_Y := u_ld f_okI f_l2 n_73_136
theorem t_73_135 : e_Sn 73 135 (e_un n_73_135) := u_ldIT f_l2_eq (s_iload (i := .iload_n 2) (len := 1) hq_73 (by decide +kernel) rfl (.inr ⟨2, rfl, rfl, rfl⟩) : e_Sn 73 135 (o_load e_okI 2 136)) t_73_136
noncomputable def n_73_132 : e_Y := u_getf 14 4 (u_old (o_getf (e_f1 14 4) 135) n_73_135) n_73_135
theorem t_73_132 : e_Sn 73 132 (e_un n_73_132) := u_getfT (s_getf (C := er_14) (T := et_14) (N := 13) (ref := "PlateroomprinterModel$Machine") (index := 34) (ci := 14) (k := 4) hq_73 ho_73 ⟨rfl, by decide, ei_14, (List.mem_of_getElem? (i := 1902) (by decide +kernel)), .inl rfl⟩ (by decide +kernel) rfl : e_Sn 73 132 (o_getf (e_f1 14 4) 135)) t_73_135
noncomputable def n_73_131 : e_Y := u_ld f_okA f_l1 n_73_132
theorem t_73_131 : e_Sn 73 131 (e_un n_73_131) := u_ldAT f_l1_eq (s_aload (i := .aload_n 1) (len := 1) hq_73 (by decide +kernel) rfl (.inr ⟨1, rfl, rfl, rfl⟩) : e_Sn 73 131 (o_load e_okR 1 132)) t_73_132
noncomputable def n_73_128 : e_Y := u_jmp y_ge (u_old2 (o_clt 131 157) 131 n_73_131 n_73_157) n_73_131 n_73_157
theorem t_73_128 : e_Sn 73 128 (e_un n_73_128) := u_cltT rfl (s_cge (off := (29)) hq_73 (by decide +kernel) rfl rfl : e_Sn 73 128 (o_clt 131 157)) t_73_131 t_73_157
noncomputable def n_73_127 : e_Y := u_push (.inl 2147483653) n_73_128
theorem t_73_127 : e_Sn 73 127 (e_un n_73_127) := u_pushT (s_iconst (n := (5)) hq_73 (by decide +kernel) rfl ⟨by decide +kernel, by decide +kernel⟩ : e_Sn 73 127 (o_push (.inl 2147483653) 128)) t_73_128
noncomputable def n_73_126 : e_Y := u_ld f_okI f_l2 n_73_127
theorem t_73_126 : e_Sn 73 126 (e_un n_73_126) := u_ldIT f_l2_eq (s_iload (i := .iload_n 2) (len := 1) hq_73 (by decide +kernel) rfl (.inr ⟨2, rfl, rfl, rfl⟩) : e_Sn 73 126 (o_load e_okI 2 127)) t_73_127
noncomputable def n_73_125 : e_Y := u_st f_okI f_s2 n_73_126
theorem t_73_125 : e_Sn 73 125 (e_un n_73_125) := u_stIT (fun _ _ _ => f_s2_eq) (s_istore (i := .istore_n 2) (len := 1) hq_73 (by decide +kernel) rfl (.inr ⟨2, rfl, rfl, rfl⟩) : e_Sn 73 125 (o_store e_okI 2 126)) t_73_126
noncomputable def n_73_124 : e_Y := u_push (.inl 2147483648) n_73_125
theorem t_73_124 : e_Sn 73 124 (e_un n_73_124) := u_pushT (s_iconst (n := (0)) hq_73 (by decide +kernel) rfl ⟨by decide +kernel, by decide +kernel⟩ : e_Sn 73 124 (o_push (.inl 2147483648) 125)) t_73_125
noncomputable def n_73_93 : e_Y := u_jmp y_ge (u_old2 (o_clt 96 124) 96 (u_at 96) n_73_124) (u_at 96) n_73_124
theorem t_73_93 : e_Sn 73 93 (e_un n_73_93) := u_cltT rfl (s_cge (off := (31)) hq_73 (by decide +kernel) rfl rfl : e_Sn 73 93 (o_clt 96 124)) u_atT t_73_124
noncomputable def n_73_90 : e_Y := u_callV 19 113 1 20 1 n_113_0 n_73_93
theorem t_73_90 : e_Sn 73 90 (e_un n_73_90) := u_callVT rfl (s_callV (ci := 19) (C := er_19) (T := et_19) (N := 3) (index := 53) hq_73 ho_73 hy_113 hp_113 hc_113 hi_113 hd_113 (List.mem_of_getElem? (i := 2048) (by decide +kernel)) hs_113 (List.mem_of_getElem? (i := 2002) (by decide +kernel)) rfl (by decide +kernel) rfl : e_Sn 73 90 (o_callV (e_s1 19 113 1) 1 93)) t_113_0 t_73_93
noncomputable def n_73_87 : e_Y := u_getf 14 3 (u_old (o_getf (e_f1 14 3) 90) n_73_90) n_73_90
theorem t_73_87 : e_Sn 73 87 (e_un n_73_87) := u_getfT (s_getf (C := er_14) (T := et_14) (N := 13) (ref := "PlateroomprinterModel$Machine") (index := 31) (ci := 14) (k := 3) hq_73 ho_73 ⟨rfl, by decide, ei_14, (List.mem_of_getElem? (i := 1899) (by decide +kernel)), .inl rfl⟩ (by decide +kernel) rfl : e_Sn 73 87 (o_getf (e_f1 14 3) 90)) t_73_90
noncomputable def n_73_86 : e_Y := u_ld f_okA f_l0 n_73_87
theorem t_73_86 : e_Sn 73 86 (e_un n_73_86) := u_ldAT f_l0_eq (s_aload (i := .aload_n 0) (len := 1) hq_73 (by decide +kernel) rfl (.inr ⟨0, rfl, rfl, rfl⟩) : e_Sn 73 86 (o_load e_okR 0 87)) t_73_87
noncomputable def n_73_85 : e_Y := u_ld f_okI f_l2 n_73_86
theorem t_73_85 : e_Sn 73 85 (e_un n_73_85) := u_ldIT f_l2_eq (s_iload (i := .iload_n 2) (len := 1) hq_73 (by decide +kernel) rfl (.inr ⟨2, rfl, rfl, rfl⟩) : e_Sn 73 85 (o_load e_okI 2 86)) t_73_86
noncomputable def n_73_84 : e_Y := u_st f_okI f_s2 n_73_85
theorem t_73_84 : e_Sn 73 84 (e_un n_73_84) := u_stIT (fun _ _ _ => f_s2_eq) (s_istore (i := .istore_n 2) (len := 1) hq_73 (by decide +kernel) rfl (.inr ⟨2, rfl, rfl, rfl⟩) : e_Sn 73 84 (o_store e_okI 2 85)) t_73_85
noncomputable def n_73_83 : e_Y := u_push (.inl 2147483648) n_73_84
theorem t_73_83 : e_Sn 73 83 (e_un n_73_83) := u_pushT (s_iconst (n := (0)) hq_73 (by decide +kernel) rfl ⟨by decide +kernel, by decide +kernel⟩ : e_Sn 73 83 (o_push (.inl 2147483648) 84)) t_73_84
noncomputable def n_73_80 : e_Y := u_old (o_putf (e_f1 14 2) e_okR 83) n_73_83
theorem t_73_80 : e_Sn 73 80 (e_un n_73_80) := u_oldT (s_putf (ty0 := ey_14) (ok := e_okR) (C := er_14) (T := et_14) (N := 13) (ref := "PlateroomprinterModel$Machine") (index := 27) (ci := 14) (k := 2) hq_73 ho_73 ⟨rfl, by decide, ei_14, (List.mem_of_getElem? (i := 1896) (by decide +kernel)), .inl rfl⟩ eo_14 en_14 e_oksR (.inl rfl) (by decide +kernel) rfl : e_Sn 73 80 (o_putf (e_f1 14 2) e_okR 83)) t_73_83 (e_cg_putf (e_f1 14 2) e_okR)
noncomputable def n_73_77 : e_Y := u_callV 17 97 3 22 1 n_97_0 n_73_80
theorem t_73_77 : e_Sn 73 77 (e_un n_73_77) := u_callVT rfl (s_callV (ci := 17) (C := er_17) (T := et_17) (N := 6) (index := 61) hq_73 ho_73 hy_97 hp_97 hc_97 hi_97 hd_97 (List.mem_of_getElem? (i := 2057) (by decide +kernel)) hs_97 (List.mem_of_getElem? (i := 2059) (by decide +kernel)) rfl (by decide +kernel) rfl : e_Sn 73 77 (o_callV (e_s1 17 97 3) 1 80)) t_97_0 t_73_80
noncomputable def n_73_74 : e_Y := u_getf 14 2 (u_old (o_getf (e_f1 14 2) 77) n_73_77) n_73_77
theorem t_73_74 : e_Sn 73 74 (e_un n_73_74) := u_getfT (s_getf (C := er_14) (T := et_14) (N := 13) (ref := "PlateroomprinterModel$Machine") (index := 27) (ci := 14) (k := 2) hq_73 ho_73 ⟨rfl, by decide, ei_14, (List.mem_of_getElem? (i := 1896) (by decide +kernel)), .inl rfl⟩ (by decide +kernel) rfl : e_Sn 73 74 (o_getf (e_f1 14 2) 77)) t_73_77
noncomputable def n_73_73 : e_Y := u_ld f_okA f_l0 n_73_74
theorem t_73_73 : e_Sn 73 73 (e_un n_73_73) := u_ldAT f_l0_eq (s_aload (i := .aload_n 0) (len := 1) hq_73 (by decide +kernel) rfl (.inr ⟨0, rfl, rfl, rfl⟩) : e_Sn 73 73 (o_load e_okR 0 74)) t_73_74
noncomputable def n_73_72 : e_Y := u_ld f_okA f_l1 n_73_73
theorem t_73_72 : e_Sn 73 72 (e_un n_73_72) := u_ldAT f_l1_eq (s_aload (i := .aload_n 1) (len := 1) hq_73 (by decide +kernel) rfl (.inr ⟨1, rfl, rfl, rfl⟩) : e_Sn 73 72 (o_load e_okR 1 73)) t_73_73
noncomputable def n_73_69 : e_Y := (u_at 48)
theorem t_73_69 : e_Sn 73 69 (e_un n_73_69) := u_gotoT (s_goto (off := (-21)) hq_73 (by decide +kernel) rfl : e_Sn 73 69 (o_goto 48)) u_atT
noncomputable def n_73_66 : e_Y := u_inc f_l2 f_s2 1 n_73_69
theorem t_73_66 : e_Sn 73 66 (e_un n_73_66) := u_incT f_l2_eq (fun _ _ _ => f_s2_eq) (s_iinc (zz := (1)) hq_73 (by decide +kernel) rfl (by decide +kernel) ⟨by decide, by decide⟩ : e_Sn 73 66 (o_iinc 2 1 69)) t_73_69
noncomputable def n_73_65 : e_Y := u_old (o_astR 6 (fun _ => false) 66) n_73_66
theorem t_73_65 : e_Sn 73 65 (e_un n_73_65) := u_oldT (s_aast (tc := 3) (E := "PlateroomprinterModel$Item") hq_73 rfl (by decide) (fun k hk => by cases hk) (by decide +kernel) rfl : e_Sn 73 65 (o_astR 6 (fun _ => false) 66)) t_73_66 (e_cg_astR 6 (fun _ => false))
noncomputable def n_73_64 : e_Y := u_ald 6 (u_old (o_aldO 6 65) n_73_65) n_73_65
theorem t_73_64 : e_Sn 73 64 (e_un n_73_64) := u_aldOT (s_aald (tc := 3) rfl hq_73 (by decide +kernel) rfl : e_Sn 73 64 (o_aldO 6 65)) t_73_65
noncomputable def n_73_63 : e_Y := u_ld f_okI f_l2 n_73_64
theorem t_73_63 : e_Sn 73 63 (e_un n_73_63) := u_ldIT f_l2_eq (s_iload (i := .iload_n 2) (len := 1) hq_73 (by decide +kernel) rfl (.inr ⟨2, rfl, rfl, rfl⟩) : e_Sn 73 63 (o_load e_okI 2 64)) t_73_64
noncomputable def n_73_60 : e_Y := u_getf 14 1 (u_old (o_getf (e_f1 14 1) 63) n_73_63) n_73_63
theorem t_73_60 : e_Sn 73 60 (e_un n_73_60) := u_getfT (s_getf (C := er_14) (T := et_14) (N := 13) (ref := "PlateroomprinterModel$Machine") (index := 20) (ci := 14) (k := 1) hq_73 ho_73 ⟨rfl, by decide, ei_14, (List.mem_of_getElem? (i := 1893) (by decide +kernel)), .inl rfl⟩ (by decide +kernel) rfl : e_Sn 73 60 (o_getf (e_f1 14 1) 63)) t_73_63
noncomputable def n_73_59 : e_Y := u_ld f_okA f_l0 n_73_60
theorem t_73_59 : e_Sn 73 59 (e_un n_73_59) := u_ldAT f_l0_eq (s_aload (i := .aload_n 0) (len := 1) hq_73 (by decide +kernel) rfl (.inr ⟨0, rfl, rfl, rfl⟩) : e_Sn 73 59 (o_load e_okR 0 60)) t_73_60
noncomputable def n_73_58 : e_Y := u_ld f_okI f_l2 n_73_59
theorem t_73_58 : e_Sn 73 58 (e_un n_73_58) := u_ldIT f_l2_eq (s_iload (i := .iload_n 2) (len := 1) hq_73 (by decide +kernel) rfl (.inr ⟨2, rfl, rfl, rfl⟩) : e_Sn 73 58 (o_load e_okI 2 59)) t_73_59
noncomputable def n_73_55 : e_Y := u_getf 14 1 (u_old (o_getf (e_f1 14 1) 58) n_73_58) n_73_58
theorem t_73_55 : e_Sn 73 55 (e_un n_73_55) := u_getfT (s_getf (C := er_14) (T := et_14) (N := 13) (ref := "PlateroomprinterModel$Machine") (index := 20) (ci := 14) (k := 1) hq_73 ho_73 ⟨rfl, by decide, ei_14, (List.mem_of_getElem? (i := 1893) (by decide +kernel)), .inl rfl⟩ (by decide +kernel) rfl : e_Sn 73 55 (o_getf (e_f1 14 1) 58)) t_73_58
noncomputable def n_73_54 : e_Y := u_ld f_okA f_l1 n_73_55
theorem t_73_54 : e_Sn 73 54 (e_un n_73_54) := u_ldAT f_l1_eq (s_aload (i := .aload_n 1) (len := 1) hq_73 (by decide +kernel) rfl (.inr ⟨1, rfl, rfl, rfl⟩) : e_Sn 73 54 (o_load e_okR 1 55)) t_73_55
noncomputable def n_73_51 : e_Y := u_jmp y_ge (u_old2 (o_clt 54 72) 54 n_73_54 n_73_72) n_73_54 n_73_72
theorem t_73_51 : e_Sn 73 51 (e_un n_73_51) := u_cltT rfl (s_cge (off := (21)) hq_73 (by decide +kernel) rfl rfl : e_Sn 73 51 (o_clt 54 72)) t_73_54 t_73_72
noncomputable def n_73_49 : e_Y := u_push (.inl 2147483658) n_73_51
theorem t_73_49 : e_Sn 73 49 (e_un n_73_49) := u_pushT (s_bipush (n := (10)) hq_73 (by decide +kernel) rfl ⟨by decide +kernel, by decide +kernel⟩ : e_Sn 73 49 (o_push (.inl 2147483658) 51)) t_73_51
noncomputable def n_73_48 : e_Y := u_ld f_okI f_l2 n_73_49
theorem t_73_48 : e_Sn 73 48 (e_un n_73_48) := u_ldIT f_l2_eq (s_iload (i := .iload_n 2) (len := 1) hq_73 (by decide +kernel) rfl (.inr ⟨2, rfl, rfl, rfl⟩) : e_Sn 73 48 (o_load e_okI 2 49)) t_73_49
noncomputable def n_73_47 : e_Y := u_st f_okI f_s2 n_73_48
theorem t_73_47 : e_Sn 73 47 (e_un n_73_47) := u_stIT (fun _ _ _ => f_s2_eq) (s_istore (i := .istore_n 2) (len := 1) hq_73 (by decide +kernel) rfl (.inr ⟨2, rfl, rfl, rfl⟩) : e_Sn 73 47 (o_store e_okI 2 48)) t_73_48
noncomputable def n_73_46 : e_Y := u_push (.inl 2147483648) n_73_47
theorem t_73_46 : e_Sn 73 46 (e_un n_73_46) := u_pushT (s_iconst (n := (0)) hq_73 (by decide +kernel) rfl ⟨by decide +kernel, by decide +kernel⟩ : e_Sn 73 46 (o_push (.inl 2147483648) 47)) t_73_47
noncomputable def n_73_18 : e_Y := u_jmp y_ge (u_old2 (o_clt 21 46) 21 (u_at 21) n_73_46) (u_at 21) n_73_46
theorem t_73_18 : e_Sn 73 18 (e_un n_73_18) := u_cltT rfl (s_cge (off := (28)) hq_73 (by decide +kernel) rfl rfl : e_Sn 73 18 (o_clt 21 46)) u_atT t_73_46
noncomputable def n_73_15 : e_Y := u_callV 19 113 1 20 1 n_113_0 n_73_18
theorem t_73_15 : e_Sn 73 15 (e_un n_73_15) := u_callVT rfl (s_callV (ci := 19) (C := er_19) (T := et_19) (N := 3) (index := 53) hq_73 ho_73 hy_113 hp_113 hc_113 hi_113 hd_113 (List.mem_of_getElem? (i := 2048) (by decide +kernel)) hs_113 (List.mem_of_getElem? (i := 2002) (by decide +kernel)) rfl (by decide +kernel) rfl : e_Sn 73 15 (o_callV (e_s1 19 113 1) 1 18)) t_113_0 t_73_18
noncomputable def n_73_12 : e_Y := u_getf 14 0 (u_old (o_getf (e_f1 14 0) 15) n_73_15) n_73_15
theorem t_73_12 : e_Sn 73 12 (e_un n_73_12) := u_getfT (s_getf (C := er_14) (T := et_14) (N := 13) (ref := "PlateroomprinterModel$Machine") (index := 12) (ci := 14) (k := 0) hq_73 ho_73 ⟨rfl, by decide, ei_14, (List.mem_of_getElem? (i := 1890) (by decide +kernel)), .inl rfl⟩ (by decide +kernel) rfl : e_Sn 73 12 (o_getf (e_f1 14 0) 15)) t_73_15
noncomputable def n_73_11 : e_Y := u_ld f_okA f_l0 n_73_12
theorem t_73_11 : e_Sn 73 11 (e_un n_73_11) := u_ldAT f_l0_eq (s_aload (i := .aload_n 0) (len := 1) hq_73 (by decide +kernel) rfl (.inr ⟨0, rfl, rfl, rfl⟩) : e_Sn 73 11 (o_load e_okR 0 12)) t_73_12
noncomputable def n_73_10 : e_Y := u_ld f_okI f_l2 n_73_11
theorem t_73_10 : e_Sn 73 10 (e_un n_73_10) := u_ldIT f_l2_eq (s_iload (i := .iload_n 2) (len := 1) hq_73 (by decide +kernel) rfl (.inr ⟨2, rfl, rfl, rfl⟩) : e_Sn 73 10 (o_load e_okI 2 11)) t_73_11
noncomputable def n_73_9 : e_Y := u_st f_okI f_s2 n_73_10
theorem t_73_9 : e_Sn 73 9 (e_un n_73_9) := u_stIT (fun _ _ _ => f_s2_eq) (s_istore (i := .istore_n 2) (len := 1) hq_73 (by decide +kernel) rfl (.inr ⟨2, rfl, rfl, rfl⟩) : e_Sn 73 9 (o_store e_okI 2 10)) t_73_10
noncomputable def n_73_8 : e_Y := u_push (.inl 2147483648) n_73_9
theorem t_73_8 : e_Sn 73 8 (e_un n_73_8) := u_pushT (s_iconst (n := (0)) hq_73 (by decide +kernel) rfl ⟨by decide +kernel, by decide +kernel⟩ : e_Sn 73 8 (o_push (.inl 2147483648) 9)) t_73_9
noncomputable def n_73_7 : e_Y := u_st f_okA f_s1 n_73_8
theorem t_73_7 : e_Sn 73 7 (e_un n_73_7) := u_stAT (fun _ _ _ => f_s1_eq) (s_astore (i := .astore_n 1) (len := 1) hq_73 (by decide +kernel) rfl (.inr ⟨1, rfl, rfl, rfl⟩) : e_Sn 73 7 (o_store e_okR 1 8)) t_73_8
noncomputable def n_73_4 : e_Y := u_tab (o_callI 72 2 1 7)
theorem t_73_4 : e_Sn 73 4 (e_un n_73_4) := u_tabT (s_callI (index := 52) hq_73 ho_73 hy_72 hp_72 hc_72 hi_72 hd_72 (List.mem_of_getElem? (i := 2047) (by decide +kernel)) rfl rfl hs_72 (by decide +kernel) rfl : e_Sn 73 4 (o_callI 72 2 1 7))
noncomputable def n_73_3 : e_Y := u_old (o_dup 4) n_73_4
theorem t_73_3 : e_Sn 73 3 (e_un n_73_3) := u_oldT (s_dup hq_73 (by decide +kernel) rfl : e_Sn 73 3 (o_dup 4)) t_73_4 e_cg_dup
noncomputable def n_73_0 : e_Y := u_tab (o_new 14 13 ef_14 3)
theorem t_73_0 : e_Sn 73 0 (e_un n_73_0) := u_tabT (s_new (index := 13) (ci := 14) (N := 13) (C := er_14) (T := et_14) (ty0 := ey_14) (fv := eg_14) hq_73 ho_73 rfl ei_14 eo_14 (List.mem_of_getElem? (i := 2046) (by decide +kernel)) (List.mem_of_getElem? (i := 1745) (by decide +kernel)) (List.mem_of_getElem? (i := 152) (by decide +kernel)) eh_14 rfl (e_newrel ek_14) (by decide +kernel) rfl : e_Sn 73 0 (o_new 14 13 ef_14 3))
noncomputable def e_tb_73 : e_X := (e_br 7 (e_br 3 (e_lf 0 (e_un n_73_0)) (e_lf 3 (e_un n_73_3))) (e_br 48 (e_lf 7 (e_un n_73_7)) (e_br 126 (e_lf 48 (e_un n_73_48)) (e_lf 126 (e_un n_73_126)))))
theorem e_tk_73 : e_Tb 73 e_tb_73 := (e_brT (e_brT (e_lfT t_73_0) (e_lfT t_73_3)) (e_brT (e_lfT t_73_7) (e_brT (e_lfT t_73_48) (e_lfT t_73_126))))
theorem hq_74 : (e_ml[74]?).map (·.2.1) = some prog_19_method_1_code := rfl
theorem ho_74 : (e_ml[74]?).map (·.1.cls) = some "PlateroomprinterModel$Row" := rfl
theorem hr_74 : (e_ml[74]?).map (·.2.2.2) = some none := rfl
noncomputable def n_74_9 : e_Y := u_tab (o_retv)
theorem t_74_9 : e_Sn 74 9 (e_un n_74_9) := u_tabT (s_vret hq_74 hr_74 (by decide +kernel) : e_Sn 74 9 (o_retv))
noncomputable def n_74_6 : e_Y := u_old (o_putf (e_f1 15 0) e_okR 9) n_74_9
theorem t_74_6 : e_Sn 74 6 (e_un n_74_6) := u_oldT (s_putf (ty0 := ey_15) (ok := e_okR) (C := er_15) (T := et_15) (N := 8) (ref := "PlateroomprinterModel$Row") (index := 7) (ci := 15) (k := 0) hq_74 ho_74 ⟨rfl, by decide, ei_15, (List.mem_of_getElem? (i := 2122) (by decide +kernel)), .inl rfl⟩ eo_15 en_15 e_oksR (.inr ⟨rfl, rfl, rfl⟩) (by decide +kernel) rfl : e_Sn 74 6 (o_putf (e_f1 15 0) e_okR 9)) t_74_9 (e_cg_putf (e_f1 15 0) e_okR)
noncomputable def n_74_5 : e_Y := u_ld f_okA f_l1 n_74_6
theorem t_74_5 : e_Sn 74 5 (e_un n_74_5) := u_ldAT f_l1_eq (s_aload (i := .aload_n 1) (len := 1) hq_74 (by decide +kernel) rfl (.inr ⟨1, rfl, rfl, rfl⟩) : e_Sn 74 5 (o_load e_okR 1 6)) t_74_6
noncomputable def n_74_4 : e_Y := u_ld f_okA f_l0 n_74_5
theorem t_74_4 : e_Sn 74 4 (e_un n_74_4) := u_ldAT f_l0_eq (s_aload (i := .aload_n 0) (len := 1) hq_74 (by decide +kernel) rfl (.inr ⟨0, rfl, rfl, rfl⟩) : e_Sn 74 4 (o_load e_okR 0 5)) t_74_5
noncomputable def n_74_1 : e_Y := u_tab (o_oinit 4)
theorem t_74_1 : e_Sn 74 1 (e_un n_74_1) := u_tabT (s_oinit (idx := 1) hq_74 ho_74 (List.mem_of_getElem? (i := 2121) (by decide +kernel)) (List.mem_of_getElem? (i := 190) (by decide +kernel)) (List.mem_of_getElem? (i := 191) (by decide +kernel)) (by decide +kernel) rfl : e_Sn 74 1 (o_oinit 4))
noncomputable def n_74_0 : e_Y := u_ld f_okA f_l0 n_74_1
theorem t_74_0 : e_Sn 74 0 (e_un n_74_0) := u_ldAT f_l0_eq (s_aload (i := .aload_n 0) (len := 1) hq_74 (by decide +kernel) rfl (.inr ⟨0, rfl, rfl, rfl⟩) : e_Sn 74 0 (o_load e_okR 0 1)) t_74_1
noncomputable def e_tb_74 : e_X := (e_br 4 (e_lf 0 (e_un n_74_0)) (e_lf 4 (e_un n_74_4)))
theorem e_tk_74 : e_Tb 74 e_tb_74 := (e_brT (e_lfT t_74_0) (e_lfT t_74_4))
theorem hq_76 : (e_ml[76]?).map (·.2.1) = some prog_20_method_1_code := rfl
theorem ho_76 : (e_ml[76]?).map (·.1.cls) = some "PlateroomprinterModel$Run" := rfl
theorem hr_76 : (e_ml[76]?).map (·.2.2.2) = some none := rfl
noncomputable def n_76_46 : e_Y := u_tab (o_retv)
theorem t_76_46 : e_Sn 76 46 (e_un n_76_46) := u_tabT (s_vret hq_76 hr_76 (by decide +kernel) : e_Sn 76 46 (o_retv))
noncomputable def n_76_45 : e_Y := u_pop n_76_46
theorem t_76_45 : e_Sn 76 45 (e_un n_76_45) := u_popT (s_pop hq_76 (by decide +kernel) rfl : e_Sn 76 45 (o_pop 46)) t_76_46
noncomputable def n_76_42 : e_Y := u_callV 19 103 2 21 2 n_103_0 n_76_45
theorem t_76_42 : e_Sn 76 42 (e_un n_76_42) := u_callVT rfl (s_callV (ci := 19) (C := er_19) (T := et_19) (N := 3) (index := 34) hq_76 ho_76 hy_103 hp_103 hc_103 hi_103 hd_103 (List.mem_of_getElem? (i := 2149) (by decide +kernel)) hs_103 (List.mem_of_getElem? (i := 1822) (by decide +kernel)) rfl (by decide +kernel) rfl : e_Sn 76 42 (o_callV (e_s1 19 103 2) 2 45)) t_103_0 t_76_45
noncomputable def n_76_39 : e_Y := u_tab (o_callI 74 2 2 42)
theorem t_76_39 : e_Sn 76 39 (e_un n_76_39) := u_tabT (s_callI (index := 31) hq_76 ho_76 hy_74 hp_74 hc_74 hi_74 hd_74 (List.mem_of_getElem? (i := 2118) (by decide +kernel)) rfl rfl hs_74 (by decide +kernel) rfl : e_Sn 76 39 (o_callI 74 2 2 42))
noncomputable def n_76_38 : e_Y := u_ld f_okA f_l2 n_76_39
theorem t_76_38 : e_Sn 76 38 (e_un n_76_38) := u_ldAT f_l2_eq (s_aload (i := .aload_n 2) (len := 1) hq_76 (by decide +kernel) rfl (.inr ⟨2, rfl, rfl, rfl⟩) : e_Sn 76 38 (o_load e_okR 2 39)) t_76_39
noncomputable def n_76_37 : e_Y := u_old (o_dup 38) n_76_38
theorem t_76_37 : e_Sn 76 37 (e_un n_76_37) := u_oldT (s_dup hq_76 (by decide +kernel) rfl : e_Sn 76 37 (o_dup 38)) t_76_38 e_cg_dup
noncomputable def n_76_34 : e_Y := u_tab (o_new 15 8 ef_15 37)
theorem t_76_34 : e_Sn 76 34 (e_un n_76_34) := u_tabT (s_new (index := 29) (ci := 15) (N := 8) (C := er_15) (T := et_15) (ty0 := ey_15) (fv := eg_15) hq_76 ho_76 rfl ei_15 eo_15 (List.mem_of_getElem? (i := 2116) (by decide +kernel)) (List.mem_of_getElem? (i := 2117) (by decide +kernel)) (List.mem_of_getElem? (i := 171) (by decide +kernel)) eh_15 rfl (e_newrel ek_15) (by decide +kernel) rfl : e_Sn 76 34 (o_new 15 8 ef_15 37))
noncomputable def n_76_31 : e_Y := u_getf 16 1 (u_old (o_getf (e_f1 16 1) 34) n_76_34) n_76_34
theorem t_76_31 : e_Sn 76 31 (e_un n_76_31) := u_getfT (s_getf (C := er_16) (T := et_16) (N := 5) (ref := "PlateroomprinterModel$Run") (index := 12) (ci := 16) (k := 1) hq_76 ho_76 ⟨rfl, by decide, ei_16, (List.mem_of_getElem? (i := 2151) (by decide +kernel)), .inl rfl⟩ (by decide +kernel) rfl : e_Sn 76 31 (o_getf (e_f1 16 1) 34)) t_76_34
noncomputable def n_76_30 : e_Y := u_ld f_okA f_l0 n_76_31
theorem t_76_30 : e_Sn 76 30 (e_un n_76_30) := u_ldAT f_l0_eq (s_aload (i := .aload_n 0) (len := 1) hq_76 (by decide +kernel) rfl (.inr ⟨0, rfl, rfl, rfl⟩) : e_Sn 76 30 (o_load e_okR 0 31)) t_76_31
noncomputable def n_76_27 : e_Y := u_old (o_putf (e_f1 16 0) e_okR 30) n_76_30
theorem t_76_27 : e_Sn 76 27 (e_un n_76_27) := u_oldT (s_putf (ty0 := ey_16) (ok := e_okR) (C := er_16) (T := et_16) (N := 5) (ref := "PlateroomprinterModel$Run") (index := 25) (ci := 16) (k := 0) hq_76 ho_76 ⟨rfl, by decide, ei_16, (List.mem_of_getElem? (i := 2150) (by decide +kernel)), .inl rfl⟩ eo_16 en_16 e_oksR (.inr ⟨rfl, rfl, rfl⟩) (by decide +kernel) rfl : e_Sn 76 27 (o_putf (e_f1 16 0) e_okR 30)) t_76_30 (e_cg_putf (e_f1 16 0) e_okR)
noncomputable def n_76_26 : e_Y := u_ld f_okA f_l1 n_76_27
theorem t_76_26 : e_Sn 76 26 (e_un n_76_26) := u_ldAT f_l1_eq (s_aload (i := .aload_n 1) (len := 1) hq_76 (by decide +kernel) rfl (.inr ⟨1, rfl, rfl, rfl⟩) : e_Sn 76 26 (o_load e_okR 1 27)) t_76_27
noncomputable def n_76_25 : e_Y := u_ld f_okA f_l0 n_76_26
theorem t_76_25 : e_Sn 76 25 (e_un n_76_25) := u_ldAT f_l0_eq (s_aload (i := .aload_n 0) (len := 1) hq_76 (by decide +kernel) rfl (.inr ⟨0, rfl, rfl, rfl⟩) : e_Sn 76 25 (o_load e_okR 0 26)) t_76_26
noncomputable def n_76_22 : e_Y := u_old (o_putf (e_f1 16 4) e_okI 25) n_76_25
theorem t_76_22 : e_Sn 76 22 (e_un n_76_22) := u_oldT (s_putf (ty0 := ey_16) (ok := e_okI) (C := er_16) (T := et_16) (N := 5) (ref := "PlateroomprinterModel$Run") (index := 22) (ci := 16) (k := 4) hq_76 ho_76 ⟨rfl, by decide, ei_16, (List.mem_of_getElem? (i := 2155) (by decide +kernel)), .inl rfl⟩ eo_16 en_16 e_oksI (.inl rfl) (by decide +kernel) rfl : e_Sn 76 22 (o_putf (e_f1 16 4) e_okI 25)) t_76_25 (e_cg_putf (e_f1 16 4) e_okI)
noncomputable def n_76_21 : e_Y := u_push (.inl 2147483647) n_76_22
theorem t_76_21 : e_Sn 76 21 (e_un n_76_21) := u_pushT (s_iconst (n := (-1)) hq_76 (by decide +kernel) rfl ⟨by decide +kernel, by decide +kernel⟩ : e_Sn 76 21 (o_push (.inl 2147483647) 22)) t_76_22
noncomputable def n_76_20 : e_Y := u_ld f_okA f_l0 n_76_21
theorem t_76_20 : e_Sn 76 20 (e_un n_76_20) := u_ldAT f_l0_eq (s_aload (i := .aload_n 0) (len := 1) hq_76 (by decide +kernel) rfl (.inr ⟨0, rfl, rfl, rfl⟩) : e_Sn 76 20 (o_load e_okR 0 21)) t_76_21
noncomputable def n_76_17 : e_Y := u_old (o_putf (e_f1 16 3) e_okI 20) n_76_20
theorem t_76_17 : e_Sn 76 17 (e_un n_76_17) := u_oldT (s_putf (ty0 := ey_16) (ok := e_okI) (C := er_16) (T := et_16) (N := 5) (ref := "PlateroomprinterModel$Run") (index := 18) (ci := 16) (k := 3) hq_76 ho_76 ⟨rfl, by decide, ei_16, (List.mem_of_getElem? (i := 2153) (by decide +kernel)), .inl rfl⟩ eo_16 en_16 e_oksI (.inl rfl) (by decide +kernel) rfl : e_Sn 76 17 (o_putf (e_f1 16 3) e_okI 20)) t_76_20 (e_cg_putf (e_f1 16 3) e_okI)
noncomputable def n_76_16 : e_Y := u_push (.inl 2147483647) n_76_17
theorem t_76_16 : e_Sn 76 16 (e_un n_76_16) := u_pushT (s_iconst (n := (-1)) hq_76 (by decide +kernel) rfl ⟨by decide +kernel, by decide +kernel⟩ : e_Sn 76 16 (o_push (.inl 2147483647) 17)) t_76_17
noncomputable def n_76_15 : e_Y := u_ld f_okA f_l0 n_76_16
theorem t_76_15 : e_Sn 76 15 (e_un n_76_15) := u_ldAT f_l0_eq (s_aload (i := .aload_n 0) (len := 1) hq_76 (by decide +kernel) rfl (.inr ⟨0, rfl, rfl, rfl⟩) : e_Sn 76 15 (o_load e_okR 0 16)) t_76_16
noncomputable def n_76_12 : e_Y := u_old (o_putf (e_f1 16 1) e_okR 15) n_76_15
theorem t_76_12 : e_Sn 76 12 (e_un n_76_12) := u_oldT (s_putf (ty0 := ey_16) (ok := e_okR) (C := er_16) (T := et_16) (N := 5) (ref := "PlateroomprinterModel$Run") (index := 12) (ci := 16) (k := 1) hq_76 ho_76 ⟨rfl, by decide, ei_16, (List.mem_of_getElem? (i := 2151) (by decide +kernel)), .inl rfl⟩ eo_16 en_16 e_oksR (.inr ⟨rfl, rfl, rfl⟩) (by decide +kernel) rfl : e_Sn 76 12 (o_putf (e_f1 16 1) e_okR 15)) t_76_15 (e_cg_putf (e_f1 16 1) e_okR)
noncomputable def n_76_9 : e_Y := u_tab (o_callI 102 1 1 12)
theorem t_76_9 : e_Sn 76 9 (e_un n_76_9) := u_tabT (s_callI (index := 11) hq_76 ho_76 hy_102 hp_102 hc_102 hi_102 hd_102 (List.mem_of_getElem? (i := 2115) (by decide +kernel)) rfl rfl hs_102 (by decide +kernel) rfl : e_Sn 76 9 (o_callI 102 1 1 12))
noncomputable def n_76_8 : e_Y := u_old (o_dup 9) n_76_9
theorem t_76_8 : e_Sn 76 8 (e_un n_76_8) := u_oldT (s_dup hq_76 (by decide +kernel) rfl : e_Sn 76 8 (o_dup 9)) t_76_9 e_cg_dup
noncomputable def n_76_5 : e_Y := u_tab (o_new 19 3 ef_19 8)
theorem t_76_5 : e_Sn 76 5 (e_un n_76_5) := u_tabT (s_new (index := 9) (ci := 19) (N := 3) (C := er_19) (T := et_19) (ty0 := ey_19) (fv := eg_19) hq_76 ho_76 rfl ei_19 eo_19 (List.mem_of_getElem? (i := 2114) (by decide +kernel)) (List.mem_of_getElem? (i := 1751) (by decide +kernel)) (List.mem_of_getElem? (i := 155) (by decide +kernel)) eh_19 rfl (e_newrel ek_19) (by decide +kernel) rfl : e_Sn 76 5 (o_new 19 3 ef_19 8))
noncomputable def n_76_4 : e_Y := u_ld f_okA f_l0 n_76_5
theorem t_76_4 : e_Sn 76 4 (e_un n_76_4) := u_ldAT f_l0_eq (s_aload (i := .aload_n 0) (len := 1) hq_76 (by decide +kernel) rfl (.inr ⟨0, rfl, rfl, rfl⟩) : e_Sn 76 4 (o_load e_okR 0 5)) t_76_5
noncomputable def n_76_1 : e_Y := u_tab (o_oinit 4)
theorem t_76_1 : e_Sn 76 1 (e_un n_76_1) := u_tabT (s_oinit (idx := 3) hq_76 ho_76 (List.mem_of_getElem? (i := 2113) (by decide +kernel)) (List.mem_of_getElem? (i := 190) (by decide +kernel)) (List.mem_of_getElem? (i := 191) (by decide +kernel)) (by decide +kernel) rfl : e_Sn 76 1 (o_oinit 4))
noncomputable def n_76_0 : e_Y := u_ld f_okA f_l0 n_76_1
theorem t_76_0 : e_Sn 76 0 (e_un n_76_0) := u_ldAT f_l0_eq (s_aload (i := .aload_n 0) (len := 1) hq_76 (by decide +kernel) rfl (.inr ⟨0, rfl, rfl, rfl⟩) : e_Sn 76 0 (o_load e_okR 0 1)) t_76_1
noncomputable def e_tb_76 : e_X := (e_br 12 (e_br 4 (e_lf 0 (e_un n_76_0)) (e_br 8 (e_lf 4 (e_un n_76_4)) (e_lf 8 (e_un n_76_8)))) (e_br 37 (e_lf 12 (e_un n_76_12)) (e_br 42 (e_lf 37 (e_un n_76_37)) (e_lf 42 (e_un n_76_42)))))
theorem e_tk_76 : e_Tb 76 e_tb_76 := (e_brT (e_brT (e_lfT t_76_0) (e_brT (e_lfT t_76_4) (e_lfT t_76_8))) (e_brT (e_lfT t_76_12) (e_brT (e_lfT t_76_37) (e_lfT t_76_42))))
theorem hq_75 : (e_ml[75]?).map (·.2.1) = some prog_19_method_2_code := rfl
theorem ho_75 : (e_ml[75]?).map (·.1.cls) = some "PlateroomprinterModel$Row" := rfl
theorem hr_75 : (e_ml[75]?).map (·.2.2.2) = some (some .boolean) := rfl
noncomputable def n_75_19 : e_Y := u_tab (o_ret e_okZ)
theorem t_75_19 : e_Sn 75 19 (e_un n_75_19) := u_tabT (s_zret hq_75 hr_75 (by decide +kernel) : e_Sn 75 19 (o_ret e_okZ))
noncomputable def n_75_18 : e_Y := u_push (.inl 2147483648) n_75_19
theorem t_75_18 : e_Sn 75 18 (e_un n_75_18) := u_pushT (s_iconst (n := (0)) hq_75 (by decide +kernel) rfl ⟨by decide +kernel, by decide +kernel⟩ : e_Sn 75 18 (o_push (.inl 2147483648) 19)) t_75_19
noncomputable def n_75_15 : e_Y := n_75_19
theorem t_75_15 : e_Sn 75 15 (e_un n_75_15) := u_gotoT (s_goto (off := (4)) hq_75 (by decide +kernel) rfl : e_Sn 75 15 (o_goto 19)) t_75_19
noncomputable def n_75_14 : e_Y := u_push (.inl 2147483649) n_75_15
theorem t_75_14 : e_Sn 75 14 (e_un n_75_14) := u_pushT (s_iconst (n := (1)) hq_75 (by decide +kernel) rfl ⟨by decide +kernel, by decide +kernel⟩ : e_Sn 75 14 (o_push (.inl 2147483649) 15)) t_75_15
noncomputable def n_75_11 : e_Y := u_jmp y_ne (u_old2 (o_ceq 14 18) 14 n_75_14 n_75_18) n_75_14 n_75_18
theorem t_75_11 : e_Sn 75 11 (e_un n_75_11) := u_ceqT rfl (s_cne (off := (7)) hq_75 (by decide +kernel) rfl rfl : e_Sn 75 11 (o_ceq 14 18)) t_75_14 t_75_18
noncomputable def n_75_8 : e_Y := u_callV 19 113 1 20 1 n_113_0 n_75_11
theorem t_75_8 : e_Sn 75 8 (e_un n_75_8) := u_callVT rfl (s_callV (ci := 19) (C := er_19) (T := et_19) (N := 3) (index := 17) hq_75 ho_75 hy_113 hp_113 hc_113 hi_113 hd_113 (List.mem_of_getElem? (i := 2187) (by decide +kernel)) hs_113 (List.mem_of_getElem? (i := 2002) (by decide +kernel)) rfl (by decide +kernel) rfl : e_Sn 75 8 (o_callV (e_s1 19 113 1) 1 11)) t_113_0 t_75_11
noncomputable def n_75_5 : e_Y := u_getf 15 0 (u_old (o_getf (e_f1 15 0) 8) n_75_8) n_75_8
theorem t_75_5 : e_Sn 75 5 (e_un n_75_5) := u_getfT (s_getf (C := er_15) (T := et_15) (N := 8) (ref := "PlateroomprinterModel$Row") (index := 7) (ci := 15) (k := 0) hq_75 ho_75 ⟨rfl, by decide, ei_15, (List.mem_of_getElem? (i := 2122) (by decide +kernel)), .inl rfl⟩ (by decide +kernel) rfl : e_Sn 75 5 (o_getf (e_f1 15 0) 8)) t_75_8
noncomputable def n_75_4 : e_Y := u_ld f_okA f_l0 n_75_5
theorem t_75_4 : e_Sn 75 4 (e_un n_75_4) := u_ldAT f_l0_eq (s_aload (i := .aload_n 0) (len := 1) hq_75 (by decide +kernel) rfl (.inr ⟨0, rfl, rfl, rfl⟩) : e_Sn 75 4 (o_load e_okR 0 5)) t_75_5
noncomputable def n_75_1 : e_Y := u_getf 15 1 (u_old (o_getf (e_f1 15 1) 4) n_75_4) n_75_4
theorem t_75_1 : e_Sn 75 1 (e_un n_75_1) := u_getfT (s_getf (C := er_15) (T := et_15) (N := 8) (ref := "PlateroomprinterModel$Row") (index := 13) (ci := 15) (k := 1) hq_75 ho_75 ⟨rfl, by decide, ei_15, (List.mem_of_getElem? (i := 2124) (by decide +kernel)), .inl rfl⟩ (by decide +kernel) rfl : e_Sn 75 1 (o_getf (e_f1 15 1) 4)) t_75_4
noncomputable def n_75_0 : e_Y := u_ld f_okA f_l0 n_75_1
theorem t_75_0 : e_Sn 75 0 (e_un n_75_0) := u_ldAT f_l0_eq (s_aload (i := .aload_n 0) (len := 1) hq_75 (by decide +kernel) rfl (.inr ⟨0, rfl, rfl, rfl⟩) : e_Sn 75 0 (o_load e_okR 0 1)) t_75_1
noncomputable def e_tb_75 : e_X := (e_lf 0 (e_un n_75_0))
theorem e_tk_75 : e_Tb 75 e_tb_75 := (e_lfT t_75_0)
theorem hq_92 : (e_ml[92]?).map (·.2.1) = some prog_20_method_6_code := rfl
theorem ho_92 : (e_ml[92]?).map (·.1.cls) = some "PlateroomprinterModel$Run" := rfl
theorem hr_92 : (e_ml[92]?).map (·.2.2.2) = some none := rfl
noncomputable def n_92_53 : e_Y := u_tab (o_retv)
theorem t_92_53 : e_Sn 92 53 (e_un n_92_53) := u_tabT (s_vret hq_92 hr_92 (by decide +kernel) : e_Sn 92 53 (o_retv))
noncomputable def n_92_50 : e_Y := u_old (o_putf (e_f1 15 5) e_okL 53) n_92_53
theorem t_92_50 : e_Sn 92 50 (e_un n_92_50) := u_oldT (s_putf (ty0 := ey_15) (ok := e_okL) (C := er_15) (T := et_15) (N := 8) (ref := "PlateroomprinterModel$Row") (index := 105) (ci := 15) (k := 5) hq_92 ho_92 ⟨rfl, by decide, ei_15, (List.mem_of_getElem? (i := 2129) (by decide +kernel)), .inl rfl⟩ eo_15 en_15 e_oksL (.inl rfl) (by decide +kernel) rfl : e_Sn 92 50 (o_putf (e_f1 15 5) e_okL 53)) t_92_53 (e_cg_putf (e_f1 15 5) e_okL)
noncomputable def n_92_49 : e_Y := u_old (o_ladd 50) n_92_50
theorem t_92_49 : e_Sn 92 49 (e_un n_92_49) := u_oldT (s_ladd hq_92 (by decide +kernel) rfl : e_Sn 92 49 (o_ladd 50)) t_92_50 e_cg_ladd
noncomputable def n_92_46 : e_Y := u_getf 15 6 (u_old (o_getf (e_f1 15 6) 49) n_92_49) n_92_49
theorem t_92_46 : e_Sn 92 46 (e_un n_92_46) := u_getfT (s_getf (C := er_15) (T := et_15) (N := 8) (ref := "PlateroomprinterModel$Row") (index := 101) (ci := 15) (k := 6) hq_92 ho_92 ⟨rfl, by decide, ei_15, (List.mem_of_getElem? (i := 2130) (by decide +kernel)), .inl rfl⟩ (by decide +kernel) rfl : e_Sn 92 46 (o_getf (e_f1 15 6) 49)) t_92_49
noncomputable def n_92_45 : e_Y := u_ld f_okA f_l1 n_92_46
theorem t_92_45 : e_Sn 92 45 (e_un n_92_45) := u_ldAT f_l1_eq (s_aload (i := .aload_n 1) (len := 1) hq_92 (by decide +kernel) rfl (.inr ⟨1, rfl, rfl, rfl⟩) : e_Sn 92 45 (o_load e_okR 1 46)) t_92_46
noncomputable def n_92_42 : e_Y := u_getf 15 5 (u_old (o_getf (e_f1 15 5) 45) n_92_45) n_92_45
theorem t_92_42 : e_Sn 92 42 (e_un n_92_42) := u_getfT (s_getf (C := er_15) (T := et_15) (N := 8) (ref := "PlateroomprinterModel$Row") (index := 105) (ci := 15) (k := 5) hq_92 ho_92 ⟨rfl, by decide, ei_15, (List.mem_of_getElem? (i := 2129) (by decide +kernel)), .inl rfl⟩ (by decide +kernel) rfl : e_Sn 92 42 (o_getf (e_f1 15 5) 45)) t_92_45
noncomputable def n_92_41 : e_Y := u_old (o_dup 42) n_92_42
theorem t_92_41 : e_Sn 92 41 (e_un n_92_41) := u_oldT (s_dup hq_92 (by decide +kernel) rfl : e_Sn 92 41 (o_dup 42)) t_92_42 e_cg_dup
noncomputable def n_92_40 : e_Y := u_ld f_okA f_l1 n_92_41
theorem t_92_40 : e_Sn 92 40 (e_un n_92_40) := u_ldAT f_l1_eq (s_aload (i := .aload_n 1) (len := 1) hq_92 (by decide +kernel) rfl (.inr ⟨1, rfl, rfl, rfl⟩) : e_Sn 92 40 (o_load e_okR 1 41)) t_92_41
noncomputable def n_92_29 : e_Y := u_if y_ne0 (u_old2 (o_ifeq 40 32) 40 n_92_40 (u_at 32)) n_92_40 (u_at 32)
theorem t_92_29 : e_Sn 92 29 (e_un n_92_29) := u_ifeqT rfl (s_ifeq (off := (11)) hq_92 (by decide +kernel) rfl rfl : e_Sn 92 29 (o_ifeq 40 32)) t_92_40 u_atT
noncomputable def n_92_26 : e_Y := u_getf 15 4 (u_old (o_getf (e_f1 15 4) 29) n_92_29) n_92_29
theorem t_92_26 : e_Sn 92 26 (e_un n_92_26) := u_getfT (s_getf (C := er_15) (T := et_15) (N := 8) (ref := "PlateroomprinterModel$Row") (index := 98) (ci := 15) (k := 4) hq_92 ho_92 ⟨rfl, by decide, ei_15, (List.mem_of_getElem? (i := 2128) (by decide +kernel)), .inl rfl⟩ (by decide +kernel) rfl : e_Sn 92 26 (o_getf (e_f1 15 4) 29)) t_92_29
noncomputable def n_92_25 : e_Y := u_ld f_okA f_l1 n_92_26
theorem t_92_25 : e_Sn 92 25 (e_un n_92_25) := u_ldAT f_l1_eq (s_aload (i := .aload_n 1) (len := 1) hq_92 (by decide +kernel) rfl (.inr ⟨1, rfl, rfl, rfl⟩) : e_Sn 92 25 (o_load e_okR 1 26)) t_92_26
noncomputable def n_92_22 : e_Y := u_old (o_putf (e_f1 15 3) e_okI 25) n_92_25
theorem t_92_22 : e_Sn 92 22 (e_un n_92_22) := u_oldT (s_putf (ty0 := ey_15) (ok := e_okI) (C := er_15) (T := et_15) (N := 8) (ref := "PlateroomprinterModel$Row") (index := 111) (ci := 15) (k := 3) hq_92 ho_92 ⟨rfl, by decide, ei_15, (List.mem_of_getElem? (i := 2127) (by decide +kernel)), .inl rfl⟩ eo_15 en_15 e_oksI (.inl rfl) (by decide +kernel) rfl : e_Sn 92 22 (o_putf (e_f1 15 3) e_okI 25)) t_92_25 (e_cg_putf (e_f1 15 3) e_okI)
noncomputable def n_92_21 : e_Y := u_bin a_isub (u_old (o_isub 22) n_92_22) n_92_22
theorem t_92_21 : e_Sn 92 21 (e_un n_92_21) := u_isubT (s_isub hq_92 (by decide +kernel) rfl : e_Sn 92 21 (o_isub 22)) t_92_22
noncomputable def n_92_20 : e_Y := u_push (.inl 2147483649) n_92_21
theorem t_92_20 : e_Sn 92 20 (e_un n_92_20) := u_pushT (s_iconst (n := (1)) hq_92 (by decide +kernel) rfl ⟨by decide +kernel, by decide +kernel⟩ : e_Sn 92 20 (o_push (.inl 2147483649) 21)) t_92_21
noncomputable def n_92_17 : e_Y := u_getf 15 3 (u_old (o_getf (e_f1 15 3) 20) n_92_20) n_92_20
theorem t_92_17 : e_Sn 92 17 (e_un n_92_17) := u_getfT (s_getf (C := er_15) (T := et_15) (N := 8) (ref := "PlateroomprinterModel$Row") (index := 111) (ci := 15) (k := 3) hq_92 ho_92 ⟨rfl, by decide, ei_15, (List.mem_of_getElem? (i := 2127) (by decide +kernel)), .inl rfl⟩ (by decide +kernel) rfl : e_Sn 92 17 (o_getf (e_f1 15 3) 20)) t_92_20
noncomputable def n_92_16 : e_Y := u_old (o_dup 17) n_92_17
theorem t_92_16 : e_Sn 92 16 (e_un n_92_16) := u_oldT (s_dup hq_92 (by decide +kernel) rfl : e_Sn 92 16 (o_dup 17)) t_92_17 e_cg_dup
noncomputable def n_92_15 : e_Y := u_ld f_okA f_l1 n_92_16
theorem t_92_15 : e_Sn 92 15 (e_un n_92_15) := u_ldAT f_l1_eq (s_aload (i := .aload_n 1) (len := 1) hq_92 (by decide +kernel) rfl (.inr ⟨1, rfl, rfl, rfl⟩) : e_Sn 92 15 (o_load e_okR 1 16)) t_92_16
noncomputable def n_92_12 : e_Y := u_old (o_putf (e_f1 15 1) e_okI 15) n_92_15
theorem t_92_12 : e_Sn 92 12 (e_un n_92_12) := u_oldT (s_putf (ty0 := ey_15) (ok := e_okI) (C := er_15) (T := et_15) (N := 8) (ref := "PlateroomprinterModel$Row") (index := 50) (ci := 15) (k := 1) hq_92 ho_92 ⟨rfl, by decide, ei_15, (List.mem_of_getElem? (i := 2125) (by decide +kernel)), .inl rfl⟩ eo_15 en_15 e_oksI (.inl rfl) (by decide +kernel) rfl : e_Sn 92 12 (o_putf (e_f1 15 1) e_okI 15)) t_92_15 (e_cg_putf (e_f1 15 1) e_okI)
noncomputable def n_92_11 : e_Y := u_push (.inl 2147483648) n_92_12
theorem t_92_11 : e_Sn 92 11 (e_un n_92_11) := u_pushT (s_iconst (n := (0)) hq_92 (by decide +kernel) rfl ⟨by decide +kernel, by decide +kernel⟩ : e_Sn 92 11 (o_push (.inl 2147483648) 12)) t_92_12
noncomputable def n_92_10 : e_Y := u_ld f_okA f_l1 n_92_11
theorem t_92_10 : e_Sn 92 10 (e_un n_92_10) := u_ldAT f_l1_eq (s_aload (i := .aload_n 1) (len := 1) hq_92 (by decide +kernel) rfl (.inr ⟨1, rfl, rfl, rfl⟩) : e_Sn 92 10 (o_load e_okR 1 11)) t_92_11
noncomputable def n_92_7 : e_Y := u_old (o_putf (e_f1 16 2) e_okI 10) n_92_10
theorem t_92_7 : e_Sn 92 7 (e_un n_92_7) := u_oldT (s_putf (ty0 := ey_16) (ok := e_okI) (C := er_16) (T := et_16) (N := 5) (ref := "PlateroomprinterModel$Run") (index := 57) (ci := 16) (k := 2) hq_92 ho_92 ⟨rfl, by decide, ei_16, (List.mem_of_getElem? (i := 2152) (by decide +kernel)), .inl rfl⟩ eo_16 en_16 e_oksI (.inl rfl) (by decide +kernel) rfl : e_Sn 92 7 (o_putf (e_f1 16 2) e_okI 10)) t_92_10 (e_cg_putf (e_f1 16 2) e_okI)
noncomputable def n_92_6 : e_Y := u_bin a_iadd (u_old (o_iadd 7) n_92_7) n_92_7
theorem t_92_6 : e_Sn 92 6 (e_un n_92_6) := u_iaddT (s_iadd hq_92 (by decide +kernel) rfl : e_Sn 92 6 (o_iadd 7)) t_92_7
noncomputable def n_92_5 : e_Y := u_push (.inl 2147483649) n_92_6
theorem t_92_5 : e_Sn 92 5 (e_un n_92_5) := u_pushT (s_iconst (n := (1)) hq_92 (by decide +kernel) rfl ⟨by decide +kernel, by decide +kernel⟩ : e_Sn 92 5 (o_push (.inl 2147483649) 6)) t_92_6
noncomputable def n_92_2 : e_Y := u_getf 16 2 (u_old (o_getf (e_f1 16 2) 5) n_92_5) n_92_5
theorem t_92_2 : e_Sn 92 2 (e_un n_92_2) := u_getfT (s_getf (C := er_16) (T := et_16) (N := 5) (ref := "PlateroomprinterModel$Run") (index := 57) (ci := 16) (k := 2) hq_92 ho_92 ⟨rfl, by decide, ei_16, (List.mem_of_getElem? (i := 2152) (by decide +kernel)), .inl rfl⟩ (by decide +kernel) rfl : e_Sn 92 2 (o_getf (e_f1 16 2) 5)) t_92_5
noncomputable def n_92_1 : e_Y := u_old (o_dup 2) n_92_2
theorem t_92_1 : e_Sn 92 1 (e_un n_92_1) := u_oldT (s_dup hq_92 (by decide +kernel) rfl : e_Sn 92 1 (o_dup 2)) t_92_2 e_cg_dup
noncomputable def n_92_0 : e_Y := u_ld f_okA f_l0 n_92_1
theorem t_92_0 : e_Sn 92 0 (e_un n_92_0) := u_ldAT f_l0_eq (s_aload (i := .aload_n 0) (len := 1) hq_92 (by decide +kernel) rfl (.inr ⟨0, rfl, rfl, rfl⟩) : e_Sn 92 0 (o_load e_okR 0 1)) t_92_1
noncomputable def e_tb_92 : e_X := (e_lf 0 (e_un n_92_0))
theorem e_tk_92 : e_Tb 92 e_tb_92 := (e_lfT t_92_0)
theorem hq_83 : (e_ml[83]?).map (·.2.1) = some prog_20_method_5_code := rfl
theorem ho_83 : (e_ml[83]?).map (·.1.cls) = some "PlateroomprinterModel$Run" := rfl
theorem hr_83 : (e_ml[83]?).map (·.2.2.2) = some (some .boolean) := rfl
noncomputable def n_83_109 : e_Y := u_tab (o_ret e_okZ)
theorem t_83_109 : e_Sn 83 109 (e_un n_83_109) := u_tabT (s_zret hq_83 hr_83 (by decide +kernel) : e_Sn 83 109 (o_ret e_okZ))
noncomputable def n_83_108 : e_Y := u_push (.inl 2147483649) n_83_109
theorem t_83_108 : e_Sn 83 108 (e_un n_83_108) := u_pushT (s_iconst (n := (1)) hq_83 (by decide +kernel) rfl ⟨by decide +kernel, by decide +kernel⟩ : e_Sn 83 108 (o_push (.inl 2147483649) 109)) t_83_109
noncomputable def n_83_105 : e_Y := u_callV 16 92 2 21 2 n_92_0 n_83_108
theorem t_83_105 : e_Sn 83 105 (e_un n_83_105) := u_callVT rfl (s_callV (ci := 16) (C := er_16) (T := et_16) (N := 5) (index := 114) hq_83 ho_83 hy_92 hp_92 hc_92 hi_92 hd_92 (List.mem_of_getElem? (i := 2192) (by decide +kernel)) hs_92 (List.mem_of_getElem? (i := 79) (by decide +kernel)) rfl (by decide +kernel) rfl : e_Sn 83 105 (o_callV (e_s1 16 92 2) 2 108)) t_92_0 t_83_108
noncomputable def n_83_104 : e_Y := u_ld f_okA f_l1 n_83_105
theorem t_83_104 : e_Sn 83 104 (e_un n_83_104) := u_ldAT f_l1_eq (s_aload (i := .aload_n 1) (len := 1) hq_83 (by decide +kernel) rfl (.inr ⟨1, rfl, rfl, rfl⟩) : e_Sn 83 104 (o_load e_okR 1 105)) t_83_105
noncomputable def n_83_103 : e_Y := u_ld f_okA f_l0 n_83_104
theorem t_83_103 : e_Sn 83 103 (e_un n_83_103) := u_ldAT f_l0_eq (s_aload (i := .aload_n 0) (len := 1) hq_83 (by decide +kernel) rfl (.inr ⟨0, rfl, rfl, rfl⟩) : e_Sn 83 103 (o_load e_okR 0 104)) t_83_104
noncomputable def n_83_100 : e_Y := u_old (o_putf (e_f1 16 4) e_okI 103) n_83_103
theorem t_83_100 : e_Sn 83 100 (e_un n_83_100) := u_oldT (s_putf (ty0 := ey_16) (ok := e_okI) (C := er_16) (T := et_16) (N := 5) (ref := "PlateroomprinterModel$Run") (index := 22) (ci := 16) (k := 4) hq_83 ho_83 ⟨rfl, by decide, ei_16, (List.mem_of_getElem? (i := 2155) (by decide +kernel)), .inl rfl⟩ eo_16 en_16 e_oksI (.inl rfl) (by decide +kernel) rfl : e_Sn 83 100 (o_putf (e_f1 16 4) e_okI 103)) t_83_103 (e_cg_putf (e_f1 16 4) e_okI)
noncomputable def n_83_99 : e_Y := u_bin a_isub (u_old (o_isub 100) n_83_100) n_83_100
theorem t_83_99 : e_Sn 83 99 (e_un n_83_99) := u_isubT (s_isub hq_83 (by decide +kernel) rfl : e_Sn 83 99 (o_isub 100)) t_83_100
noncomputable def n_83_98 : e_Y := u_push (.inl 2147483649) n_83_99
theorem t_83_98 : e_Sn 83 98 (e_un n_83_98) := u_pushT (s_iconst (n := (1)) hq_83 (by decide +kernel) rfl ⟨by decide +kernel, by decide +kernel⟩ : e_Sn 83 98 (o_push (.inl 2147483649) 99)) t_83_99
noncomputable def n_83_95 : e_Y := u_getf 15 1 (u_old (o_getf (e_f1 15 1) 98) n_83_98) n_83_98
theorem t_83_95 : e_Sn 83 95 (e_un n_83_95) := u_getfT (s_getf (C := er_15) (T := et_15) (N := 8) (ref := "PlateroomprinterModel$Row") (index := 50) (ci := 15) (k := 1) hq_83 ho_83 ⟨rfl, by decide, ei_15, (List.mem_of_getElem? (i := 2125) (by decide +kernel)), .inl rfl⟩ (by decide +kernel) rfl : e_Sn 83 95 (o_getf (e_f1 15 1) 98)) t_83_98
noncomputable def n_83_92 : e_Y := u_old (o_cast 15 95) n_83_95
theorem t_83_92 : e_Sn 83 92 (e_un n_83_92) := u_oldT (s_cast (index := 29) hq_83 ho_83 (List.mem_of_getElem? (i := 2116) (by decide +kernel)) (.inl ⟨by decide, rfl⟩) (by decide +kernel) rfl : e_Sn 83 92 (o_cast 15 95)) t_83_95 (e_cg_cast 15)
noncomputable def n_83_89 : e_Y := u_callV 19 107 2 21 2 n_107_0 n_83_92
theorem t_83_89 : e_Sn 83 89 (e_un n_83_89) := u_callVT rfl (s_callV (ci := 19) (C := er_19) (T := et_19) (N := 3) (index := 42) hq_83 ho_83 hy_107 hp_107 hc_107 hi_107 hd_107 (List.mem_of_getElem? (i := 2182) (by decide +kernel)) hs_107 (List.mem_of_getElem? (i := 2051) (by decide +kernel)) rfl (by decide +kernel) rfl : e_Sn 83 89 (o_callV (e_s1 19 107 2) 2 92)) t_107_0 t_83_92
noncomputable def n_83_88 : e_Y := u_bin a_isub (u_old (o_isub 89) n_83_89) n_83_89
theorem t_83_88 : e_Sn 83 88 (e_un n_83_88) := u_isubT (s_isub hq_83 (by decide +kernel) rfl : e_Sn 83 88 (o_isub 89)) t_83_89
noncomputable def n_83_87 : e_Y := u_push (.inl 2147483650) n_83_88
theorem t_83_87 : e_Sn 83 87 (e_un n_83_87) := u_pushT (s_iconst (n := (2)) hq_83 (by decide +kernel) rfl ⟨by decide +kernel, by decide +kernel⟩ : e_Sn 83 87 (o_push (.inl 2147483650) 88)) t_83_88
noncomputable def n_83_84 : e_Y := u_callV 19 113 1 20 1 n_113_0 n_83_87
theorem t_83_84 : e_Sn 83 84 (e_un n_83_84) := u_callVT rfl (s_callV (ci := 19) (C := er_19) (T := et_19) (N := 3) (index := 38) hq_83 ho_83 hy_113 hp_113 hc_113 hi_113 hd_113 (List.mem_of_getElem? (i := 2181) (by decide +kernel)) hs_113 (List.mem_of_getElem? (i := 2002) (by decide +kernel)) rfl (by decide +kernel) rfl : e_Sn 83 84 (o_callV (e_s1 19 113 1) 1 87)) t_113_0 t_83_87
noncomputable def n_83_81 : e_Y := u_getf 16 1 (u_old (o_getf (e_f1 16 1) 84) n_83_84) n_83_84
theorem t_83_81 : e_Sn 83 81 (e_un n_83_81) := u_getfT (s_getf (C := er_16) (T := et_16) (N := 5) (ref := "PlateroomprinterModel$Run") (index := 12) (ci := 16) (k := 1) hq_83 ho_83 ⟨rfl, by decide, ei_16, (List.mem_of_getElem? (i := 2151) (by decide +kernel)), .inl rfl⟩ (by decide +kernel) rfl : e_Sn 83 81 (o_getf (e_f1 16 1) 84)) t_83_84
noncomputable def n_83_80 : e_Y := u_ld f_okA f_l0 n_83_81
theorem t_83_80 : e_Sn 83 80 (e_un n_83_80) := u_ldAT f_l0_eq (s_aload (i := .aload_n 0) (len := 1) hq_83 (by decide +kernel) rfl (.inr ⟨0, rfl, rfl, rfl⟩) : e_Sn 83 80 (o_load e_okR 0 81)) t_83_81
noncomputable def n_83_77 : e_Y := u_getf 16 1 (u_old (o_getf (e_f1 16 1) 80) n_83_80) n_83_80
theorem t_83_77 : e_Sn 83 77 (e_un n_83_77) := u_getfT (s_getf (C := er_16) (T := et_16) (N := 5) (ref := "PlateroomprinterModel$Run") (index := 12) (ci := 16) (k := 1) hq_83 ho_83 ⟨rfl, by decide, ei_16, (List.mem_of_getElem? (i := 2151) (by decide +kernel)), .inl rfl⟩ (by decide +kernel) rfl : e_Sn 83 77 (o_getf (e_f1 16 1) 80)) t_83_80
noncomputable def n_83_76 : e_Y := u_ld f_okA f_l0 n_83_77
theorem t_83_76 : e_Sn 83 76 (e_un n_83_76) := u_ldAT f_l0_eq (s_aload (i := .aload_n 0) (len := 1) hq_83 (by decide +kernel) rfl (.inr ⟨0, rfl, rfl, rfl⟩) : e_Sn 83 76 (o_load e_okR 0 77)) t_83_77
noncomputable def n_83_75 : e_Y := u_ld f_okA f_l0 n_83_76
theorem t_83_75 : e_Sn 83 75 (e_un n_83_75) := u_ldAT f_l0_eq (s_aload (i := .aload_n 0) (len := 1) hq_83 (by decide +kernel) rfl (.inr ⟨0, rfl, rfl, rfl⟩) : e_Sn 83 75 (o_load e_okR 0 76)) t_83_76
noncomputable def n_83_72 : e_Y := u_old (o_putf (e_f1 16 3) e_okI 75) n_83_75
theorem t_83_72 : e_Sn 83 72 (e_un n_83_72) := u_oldT (s_putf (ty0 := ey_16) (ok := e_okI) (C := er_16) (T := et_16) (N := 5) (ref := "PlateroomprinterModel$Run") (index := 18) (ci := 16) (k := 3) hq_83 ho_83 ⟨rfl, by decide, ei_16, (List.mem_of_getElem? (i := 2153) (by decide +kernel)), .inl rfl⟩ eo_16 en_16 e_oksI (.inl rfl) (by decide +kernel) rfl : e_Sn 83 72 (o_putf (e_f1 16 3) e_okI 75)) t_83_75 (e_cg_putf (e_f1 16 3) e_okI)
noncomputable def n_83_71 : e_Y := u_bin a_isub (u_old (o_isub 72) n_83_72) n_83_72
theorem t_83_71 : e_Sn 83 71 (e_un n_83_71) := u_isubT (s_isub hq_83 (by decide +kernel) rfl : e_Sn 83 71 (o_isub 72)) t_83_72
noncomputable def n_83_70 : e_Y := u_push (.inl 2147483649) n_83_71
theorem t_83_70 : e_Sn 83 70 (e_un n_83_70) := u_pushT (s_iconst (n := (1)) hq_83 (by decide +kernel) rfl ⟨by decide +kernel, by decide +kernel⟩ : e_Sn 83 70 (o_push (.inl 2147483649) 71)) t_83_71
noncomputable def n_83_67 : e_Y := u_getf 15 1 (u_old (o_getf (e_f1 15 1) 70) n_83_70) n_83_70
theorem t_83_67 : e_Sn 83 67 (e_un n_83_67) := u_getfT (s_getf (C := er_15) (T := et_15) (N := 8) (ref := "PlateroomprinterModel$Row") (index := 50) (ci := 15) (k := 1) hq_83 ho_83 ⟨rfl, by decide, ei_15, (List.mem_of_getElem? (i := 2125) (by decide +kernel)), .inl rfl⟩ (by decide +kernel) rfl : e_Sn 83 67 (o_getf (e_f1 15 1) 70)) t_83_70
noncomputable def n_83_64 : e_Y := u_old (o_cast 15 67) n_83_67
theorem t_83_64 : e_Sn 83 64 (e_un n_83_64) := u_oldT (s_cast (index := 29) hq_83 ho_83 (List.mem_of_getElem? (i := 2116) (by decide +kernel)) (.inl ⟨by decide, rfl⟩) (by decide +kernel) rfl : e_Sn 83 64 (o_cast 15 67)) t_83_67 (e_cg_cast 15)
noncomputable def n_83_61 : e_Y := u_callV 19 107 2 21 2 n_107_0 n_83_64
theorem t_83_61 : e_Sn 83 61 (e_un n_83_61) := u_callVT rfl (s_callV (ci := 19) (C := er_19) (T := et_19) (N := 3) (index := 42) hq_83 ho_83 hy_107 hp_107 hc_107 hi_107 hd_107 (List.mem_of_getElem? (i := 2182) (by decide +kernel)) hs_107 (List.mem_of_getElem? (i := 2051) (by decide +kernel)) rfl (by decide +kernel) rfl : e_Sn 83 61 (o_callV (e_s1 19 107 2) 2 64)) t_107_0 t_83_64
noncomputable def n_83_60 : e_Y := u_push (.inl 2147483648) n_83_61
theorem t_83_60 : e_Sn 83 60 (e_un n_83_60) := u_pushT (s_iconst (n := (0)) hq_83 (by decide +kernel) rfl ⟨by decide +kernel, by decide +kernel⟩ : e_Sn 83 60 (o_push (.inl 2147483648) 61)) t_83_61
noncomputable def n_83_57 : e_Y := u_getf 16 1 (u_old (o_getf (e_f1 16 1) 60) n_83_60) n_83_60
theorem t_83_57 : e_Sn 83 57 (e_un n_83_57) := u_getfT (s_getf (C := er_16) (T := et_16) (N := 5) (ref := "PlateroomprinterModel$Run") (index := 12) (ci := 16) (k := 1) hq_83 ho_83 ⟨rfl, by decide, ei_16, (List.mem_of_getElem? (i := 2151) (by decide +kernel)), .inl rfl⟩ (by decide +kernel) rfl : e_Sn 83 57 (o_getf (e_f1 16 1) 60)) t_83_60
noncomputable def n_83_56 : e_Y := u_ld f_okA f_l0 n_83_57
theorem t_83_56 : e_Sn 83 56 (e_un n_83_56) := u_ldAT f_l0_eq (s_aload (i := .aload_n 0) (len := 1) hq_83 (by decide +kernel) rfl (.inr ⟨0, rfl, rfl, rfl⟩) : e_Sn 83 56 (o_load e_okR 0 57)) t_83_57
noncomputable def n_83_55 : e_Y := u_ld f_okA f_l0 n_83_56
theorem t_83_55 : e_Sn 83 55 (e_un n_83_55) := u_ldAT f_l0_eq (s_aload (i := .aload_n 0) (len := 1) hq_83 (by decide +kernel) rfl (.inr ⟨0, rfl, rfl, rfl⟩) : e_Sn 83 55 (o_load e_okR 0 56)) t_83_56
noncomputable def n_83_54 : e_Y := u_tab (o_ret e_okZ)
theorem t_83_54 : e_Sn 83 54 (e_un n_83_54) := u_tabT (s_zret hq_83 hr_83 (by decide +kernel) : e_Sn 83 54 (o_ret e_okZ))
noncomputable def n_83_53 : e_Y := u_push (.inl 2147483648) n_83_54
theorem t_83_53 : e_Sn 83 53 (e_un n_83_53) := u_pushT (s_iconst (n := (0)) hq_83 (by decide +kernel) rfl ⟨by decide +kernel, by decide +kernel⟩ : e_Sn 83 53 (o_push (.inl 2147483648) 54)) t_83_54
noncomputable def n_83_50 : e_Y := u_if y_ne0 (u_old2 (o_ifeq 53 55) 53 n_83_53 n_83_55) n_83_53 n_83_55
theorem t_83_50 : e_Sn 83 50 (e_un n_83_50) := u_ifeqT rfl (s_ifne (off := (5)) hq_83 (by decide +kernel) rfl rfl : e_Sn 83 50 (o_ifeq 53 55)) t_83_53 t_83_55
noncomputable def n_83_47 : e_Y := u_getf 15 3 (u_old (o_getf (e_f1 15 3) 50) n_83_50) n_83_50
theorem t_83_47 : e_Sn 83 47 (e_un n_83_47) := u_getfT (s_getf (C := er_15) (T := et_15) (N := 8) (ref := "PlateroomprinterModel$Row") (index := 111) (ci := 15) (k := 3) hq_83 ho_83 ⟨rfl, by decide, ei_15, (List.mem_of_getElem? (i := 2127) (by decide +kernel)), .inl rfl⟩ (by decide +kernel) rfl : e_Sn 83 47 (o_getf (e_f1 15 3) 50)) t_83_50
noncomputable def n_83_46 : e_Y := u_ld f_okA f_l1 n_83_47
theorem t_83_46 : e_Sn 83 46 (e_un n_83_46) := u_ldAT f_l1_eq (s_aload (i := .aload_n 1) (len := 1) hq_83 (by decide +kernel) rfl (.inr ⟨1, rfl, rfl, rfl⟩) : e_Sn 83 46 (o_load e_okR 1 47)) t_83_47
noncomputable def n_83_4 : e_Y := u_if y_ne0 (u_old2 (o_ifeq 46 7) 46 n_83_46 (u_at 7)) n_83_46 (u_at 7)
theorem t_83_4 : e_Sn 83 4 (e_un n_83_4) := u_ifeqT rfl (s_ifeq (off := (42)) hq_83 (by decide +kernel) rfl rfl : e_Sn 83 4 (o_ifeq 46 7)) t_83_46 u_atT
noncomputable def n_83_1 : e_Y := u_getf 15 4 (u_old (o_getf (e_f1 15 4) 4) n_83_4) n_83_4
theorem t_83_1 : e_Sn 83 1 (e_un n_83_1) := u_getfT (s_getf (C := er_15) (T := et_15) (N := 8) (ref := "PlateroomprinterModel$Row") (index := 98) (ci := 15) (k := 4) hq_83 ho_83 ⟨rfl, by decide, ei_15, (List.mem_of_getElem? (i := 2128) (by decide +kernel)), .inl rfl⟩ (by decide +kernel) rfl : e_Sn 83 1 (o_getf (e_f1 15 4) 4)) t_83_4
noncomputable def n_83_0 : e_Y := u_ld f_okA f_l1 n_83_1
theorem t_83_0 : e_Sn 83 0 (e_un n_83_0) := u_ldAT f_l1_eq (s_aload (i := .aload_n 1) (len := 1) hq_83 (by decide +kernel) rfl (.inr ⟨1, rfl, rfl, rfl⟩) : e_Sn 83 0 (o_load e_okR 1 1)) t_83_1
noncomputable def e_tb_83 : e_X := (e_lf 0 (e_un n_83_0))
theorem e_tk_83 : e_Tb 83 e_tb_83 := (e_lfT t_83_0)
theorem hq_95 : (e_ml[95]?).map (·.2.1) = some prog_20_method_2_code := rfl
theorem ho_95 : (e_ml[95]?).map (·.1.cls) = some "PlateroomprinterModel$Run" := rfl
theorem hr_95 : (e_ml[95]?).map (·.2.2.2) = some (some (.object "PlateroomprinterModel$Row")) := rfl
noncomputable def n_95_19 : e_Y := u_retA
theorem t_95_19 : e_Sn 95 19 (e_un n_95_19) := u_retAT (s_aret (.inl ⟨_, rfl⟩) hq_95 hr_95 (by decide +kernel) : e_Sn 95 19 (o_ret e_okR))
noncomputable def n_95_16 : e_Y := u_old (o_cast 15 19) n_95_19
theorem t_95_16 : e_Sn 95 16 (e_un n_95_16) := u_oldT (s_cast (index := 29) hq_95 ho_95 (List.mem_of_getElem? (i := 2116) (by decide +kernel)) (.inl ⟨by decide, rfl⟩) (by decide +kernel) rfl : e_Sn 95 16 (o_cast 15 19)) t_95_19 (e_cg_cast 15)
noncomputable def n_95_13 : e_Y := u_callV 19 107 2 21 2 n_107_0 n_95_16
theorem t_95_13 : e_Sn 95 13 (e_un n_95_13) := u_callVT rfl (s_callV (ci := 19) (C := er_19) (T := et_19) (N := 3) (index := 42) hq_95 ho_95 hy_107 hp_107 hc_107 hi_107 hd_107 (List.mem_of_getElem? (i := 2182) (by decide +kernel)) hs_107 (List.mem_of_getElem? (i := 2051) (by decide +kernel)) rfl (by decide +kernel) rfl : e_Sn 95 13 (o_callV (e_s1 19 107 2) 2 16)) t_107_0 t_95_16
noncomputable def n_95_12 : e_Y := u_bin a_isub (u_old (o_isub 13) n_95_13) n_95_13
theorem t_95_12 : e_Sn 95 12 (e_un n_95_12) := u_isubT (s_isub hq_95 (by decide +kernel) rfl : e_Sn 95 12 (o_isub 13)) t_95_13
noncomputable def n_95_11 : e_Y := u_push (.inl 2147483649) n_95_12
theorem t_95_11 : e_Sn 95 11 (e_un n_95_11) := u_pushT (s_iconst (n := (1)) hq_95 (by decide +kernel) rfl ⟨by decide +kernel, by decide +kernel⟩ : e_Sn 95 11 (o_push (.inl 2147483649) 12)) t_95_12
noncomputable def n_95_8 : e_Y := u_callV 19 113 1 20 1 n_113_0 n_95_11
theorem t_95_8 : e_Sn 95 8 (e_un n_95_8) := u_callVT rfl (s_callV (ci := 19) (C := er_19) (T := et_19) (N := 3) (index := 38) hq_95 ho_95 hy_113 hp_113 hc_113 hi_113 hd_113 (List.mem_of_getElem? (i := 2181) (by decide +kernel)) hs_113 (List.mem_of_getElem? (i := 2002) (by decide +kernel)) rfl (by decide +kernel) rfl : e_Sn 95 8 (o_callV (e_s1 19 113 1) 1 11)) t_113_0 t_95_11
noncomputable def n_95_5 : e_Y := u_getf 16 1 (u_old (o_getf (e_f1 16 1) 8) n_95_8) n_95_8
theorem t_95_5 : e_Sn 95 5 (e_un n_95_5) := u_getfT (s_getf (C := er_16) (T := et_16) (N := 5) (ref := "PlateroomprinterModel$Run") (index := 12) (ci := 16) (k := 1) hq_95 ho_95 ⟨rfl, by decide, ei_16, (List.mem_of_getElem? (i := 2151) (by decide +kernel)), .inl rfl⟩ (by decide +kernel) rfl : e_Sn 95 5 (o_getf (e_f1 16 1) 8)) t_95_8
noncomputable def n_95_4 : e_Y := u_ld f_okA f_l0 n_95_5
theorem t_95_4 : e_Sn 95 4 (e_un n_95_4) := u_ldAT f_l0_eq (s_aload (i := .aload_n 0) (len := 1) hq_95 (by decide +kernel) rfl (.inr ⟨0, rfl, rfl, rfl⟩) : e_Sn 95 4 (o_load e_okR 0 5)) t_95_5
noncomputable def n_95_1 : e_Y := u_getf 16 1 (u_old (o_getf (e_f1 16 1) 4) n_95_4) n_95_4
theorem t_95_1 : e_Sn 95 1 (e_un n_95_1) := u_getfT (s_getf (C := er_16) (T := et_16) (N := 5) (ref := "PlateroomprinterModel$Run") (index := 12) (ci := 16) (k := 1) hq_95 ho_95 ⟨rfl, by decide, ei_16, (List.mem_of_getElem? (i := 2151) (by decide +kernel)), .inl rfl⟩ (by decide +kernel) rfl : e_Sn 95 1 (o_getf (e_f1 16 1) 4)) t_95_4
noncomputable def n_95_0 : e_Y := u_ld f_okA f_l0 n_95_1
theorem t_95_0 : e_Sn 95 0 (e_un n_95_0) := u_ldAT f_l0_eq (s_aload (i := .aload_n 0) (len := 1) hq_95 (by decide +kernel) rfl (.inr ⟨0, rfl, rfl, rfl⟩) : e_Sn 95 0 (o_load e_okR 0 1)) t_95_1
noncomputable def e_tb_95 : e_X := (e_lf 0 (e_un n_95_0))
theorem e_tk_95 : e_Tb 95 e_tb_95 := (e_lfT t_95_0)
theorem hq_110 : (e_ml[110]?).map (·.2.1) = some prog_50_method_9_code := rfl
theorem ho_110 : (e_ml[110]?).map (·.1.cls) = some "java/util/ArrayList" := rfl
theorem hr_110 : (e_ml[110]?).map (·.2.2.2) = some (some .boolean) := rfl
noncomputable def n_110_12 : e_Y := u_tab (o_ret e_okZ)
theorem t_110_12 : e_Sn 110 12 (e_un n_110_12) := u_tabT (s_zret hq_110 hr_110 (by decide +kernel) : e_Sn 110 12 (o_ret e_okZ))
noncomputable def n_110_11 : e_Y := u_push (.inl 2147483648) n_110_12
theorem t_110_11 : e_Sn 110 11 (e_un n_110_11) := u_pushT (s_iconst (n := (0)) hq_110 (by decide +kernel) rfl ⟨by decide +kernel, by decide +kernel⟩ : e_Sn 110 11 (o_push (.inl 2147483648) 12)) t_110_12
noncomputable def n_110_8 : e_Y := n_110_12
theorem t_110_8 : e_Sn 110 8 (e_un n_110_8) := u_gotoT (s_goto (off := (4)) hq_110 (by decide +kernel) rfl : e_Sn 110 8 (o_goto 12)) t_110_12
noncomputable def n_110_7 : e_Y := u_push (.inl 2147483649) n_110_8
theorem t_110_7 : e_Sn 110 7 (e_un n_110_7) := u_pushT (s_iconst (n := (1)) hq_110 (by decide +kernel) rfl ⟨by decide +kernel, by decide +kernel⟩ : e_Sn 110 7 (o_push (.inl 2147483649) 8)) t_110_8
noncomputable def n_110_4 : e_Y := u_if y_ne0 (u_old2 (o_ifeq 7 11) 7 n_110_7 n_110_11) n_110_7 n_110_11
theorem t_110_4 : e_Sn 110 4 (e_un n_110_4) := u_ifeqT rfl (s_ifne (off := (7)) hq_110 (by decide +kernel) rfl rfl : e_Sn 110 4 (o_ifeq 7 11)) t_110_7 t_110_11
noncomputable def n_110_1 : e_Y := u_getf 19 1 (u_old (o_getf (e_f1 19 1) 4) n_110_4) n_110_4
theorem t_110_1 : e_Sn 110 1 (e_un n_110_1) := u_getfT (s_getf (C := er_19) (T := et_19) (N := 3) (ref := "java/util/ArrayList") (index := 48) (ci := 19) (k := 1) hq_110 ho_110 ⟨rfl, by decide, ei_19, (List.mem_of_getElem? (i := 1767) (by decide +kernel)), .inl rfl⟩ (by decide +kernel) rfl : e_Sn 110 1 (o_getf (e_f1 19 1) 4)) t_110_4
noncomputable def n_110_0 : e_Y := u_ld f_okA f_l0 n_110_1
theorem t_110_0 : e_Sn 110 0 (e_un n_110_0) := u_ldAT f_l0_eq (s_aload (i := .aload_n 0) (len := 1) hq_110 (by decide +kernel) rfl (.inr ⟨0, rfl, rfl, rfl⟩) : e_Sn 110 0 (o_load e_okR 0 1)) t_110_1
noncomputable def e_tb_110 : e_X := (e_lf 0 (e_un n_110_0))
theorem e_tk_110 : e_Tb 110 e_tb_110 := (e_lfT t_110_0)
theorem hq_106 : (e_ml[106]?).map (·.2.1) = some prog_50_method_39_code := rfl
theorem ho_106 : (e_ml[106]?).map (·.1.cls) = some "java/util/ArrayList" := rfl
theorem hr_106 : (e_ml[106]?).map (·.2.2.2) = some none := rfl
noncomputable def n_106_43 : e_Y := u_tab (o_retv)
theorem t_106_43 : e_Sn 106 43 (e_un n_106_43) := u_tabT (s_vret hq_106 hr_106 (by decide +kernel) : e_Sn 106 43 (o_retv))
noncomputable def n_106_42 : e_Y := u_old (o_astR 3 (fun _ => false) 43) n_106_43
theorem t_106_42 : e_Sn 106 42 (e_un n_106_42) := u_oldT (s_aast (tc := 0) (E := "java/lang/Object") hq_106 rfl (by decide) (fun k hk => by cases hk) (by decide +kernel) rfl : e_Sn 106 42 (o_astR 3 (fun _ => false) 43)) t_106_43 (e_cg_astR 3 (fun _ => false))
noncomputable def n_106_41 : e_Y := u_push e_N n_106_42
theorem t_106_41 : e_Sn 106 41 (e_un n_106_41) := u_pushT (s_null hq_106 (by decide +kernel) rfl : e_Sn 106 41 (o_push e_N 42)) t_106_42
noncomputable def n_106_38 : e_Y := u_old (o_putf (e_f1 19 1) e_okI 41) n_106_41
theorem t_106_38 : e_Sn 106 38 (e_un n_106_38) := u_oldT (s_putf (ty0 := ey_19) (ok := e_okI) (C := er_19) (T := et_19) (N := 3) (ref := "java/util/ArrayList") (index := 48) (ci := 19) (k := 1) hq_106 ho_106 ⟨rfl, by decide, ei_19, (List.mem_of_getElem? (i := 1767) (by decide +kernel)), .inl rfl⟩ eo_19 en_19 e_oksI (.inl rfl) (by decide +kernel) rfl : e_Sn 106 38 (o_putf (e_f1 19 1) e_okI 41)) t_106_41 (e_cg_putf (e_f1 19 1) e_okI)
noncomputable def n_106_37 : e_Y := u_old (o_dup_x1 38) n_106_38
theorem t_106_37 : e_Sn 106 37 (e_un n_106_37) := u_oldT (s_dup_x1 hq_106 (by decide +kernel) rfl : e_Sn 106 37 (o_dup_x1 38)) t_106_38 e_cg_dup_x1
noncomputable def n_106_36 : e_Y := u_ld f_okI f_l3 n_106_37
theorem t_106_36 : e_Sn 106 36 (e_un n_106_36) := u_ldIT f_l3_eq (s_iload (i := .iload_n 3) (len := 1) hq_106 (by decide +kernel) rfl (.inr ⟨3, rfl, rfl, rfl⟩) : e_Sn 106 36 (o_load e_okI 3 37)) t_106_37
noncomputable def n_106_35 : e_Y := u_ld f_okA f_l0 n_106_36
theorem t_106_35 : e_Sn 106 35 (e_un n_106_35) := u_ldAT f_l0_eq (s_aload (i := .aload_n 0) (len := 1) hq_106 (by decide +kernel) rfl (.inr ⟨0, rfl, rfl, rfl⟩) : e_Sn 106 35 (o_load e_okR 0 36)) t_106_36
noncomputable def n_106_34 : e_Y := u_ld f_okA f_l1 n_106_35
theorem t_106_34 : e_Sn 106 34 (e_un n_106_34) := u_ldAT f_l1_eq (s_aload (i := .aload_n 1) (len := 1) hq_106 (by decide +kernel) rfl (.inr ⟨1, rfl, rfl, rfl⟩) : e_Sn 106 34 (o_load e_okR 1 35)) t_106_35
noncomputable def n_106_19 : e_Y := u_jmp y_le (u_old2 (o_cgt 22 34) 22 (u_at 22) n_106_34) (u_at 22) n_106_34
theorem t_106_19 : e_Sn 106 19 (e_un n_106_19) := u_cgtT rfl (s_cle (off := (15)) hq_106 (by decide +kernel) rfl rfl : e_Sn 106 19 (o_cgt 22 34)) u_atT t_106_34
noncomputable def n_106_18 : e_Y := u_ld f_okI f_l2 n_106_19
theorem t_106_18 : e_Sn 106 18 (e_un n_106_18) := u_ldIT f_l2_eq (s_iload (i := .iload_n 2) (len := 1) hq_106 (by decide +kernel) rfl (.inr ⟨2, rfl, rfl, rfl⟩) : e_Sn 106 18 (o_load e_okI 2 19)) t_106_19
noncomputable def n_106_17 : e_Y := u_st f_okI f_s3 n_106_18
theorem t_106_17 : e_Sn 106 17 (e_un n_106_17) := u_stIT (fun _ _ _ => f_s3_eq) (s_istore (i := .istore_n 3) (len := 1) hq_106 (by decide +kernel) rfl (.inr ⟨3, rfl, rfl, rfl⟩) : e_Sn 106 17 (o_store e_okI 3 18)) t_106_18
noncomputable def n_106_16 : e_Y := u_old (o_dup 17) n_106_17
theorem t_106_16 : e_Sn 106 16 (e_un n_106_16) := u_oldT (s_dup hq_106 (by decide +kernel) rfl : e_Sn 106 16 (o_dup 17)) t_106_17 e_cg_dup
noncomputable def n_106_15 : e_Y := u_bin a_isub (u_old (o_isub 16) n_106_16) n_106_16
theorem t_106_15 : e_Sn 106 15 (e_un n_106_15) := u_isubT (s_isub hq_106 (by decide +kernel) rfl : e_Sn 106 15 (o_isub 16)) t_106_16
noncomputable def n_106_14 : e_Y := u_push (.inl 2147483649) n_106_15
theorem t_106_14 : e_Sn 106 14 (e_un n_106_14) := u_pushT (s_iconst (n := (1)) hq_106 (by decide +kernel) rfl ⟨by decide +kernel, by decide +kernel⟩ : e_Sn 106 14 (o_push (.inl 2147483649) 15)) t_106_15
noncomputable def n_106_11 : e_Y := u_getf 19 1 (u_old (o_getf (e_f1 19 1) 14) n_106_14) n_106_14
theorem t_106_11 : e_Sn 106 11 (e_un n_106_11) := u_getfT (s_getf (C := er_19) (T := et_19) (N := 3) (ref := "java/util/ArrayList") (index := 48) (ci := 19) (k := 1) hq_106 ho_106 ⟨rfl, by decide, ei_19, (List.mem_of_getElem? (i := 1767) (by decide +kernel)), .inl rfl⟩ (by decide +kernel) rfl : e_Sn 106 11 (o_getf (e_f1 19 1) 14)) t_106_14
noncomputable def n_106_10 : e_Y := u_ld f_okA f_l0 n_106_11
theorem t_106_10 : e_Sn 106 10 (e_un n_106_10) := u_ldAT f_l0_eq (s_aload (i := .aload_n 0) (len := 1) hq_106 (by decide +kernel) rfl (.inr ⟨0, rfl, rfl, rfl⟩) : e_Sn 106 10 (o_load e_okR 0 11)) t_106_11
noncomputable def n_106_7 : e_Y := u_old (o_putf (e_f1 19 2) e_okI 10) n_106_10
theorem t_106_7 : e_Sn 106 7 (e_un n_106_7) := u_oldT (s_putf (ty0 := ey_19) (ok := e_okI) (C := er_19) (T := et_19) (N := 3) (ref := "java/util/ArrayList") (index := 63) (ci := 19) (k := 2) hq_106 ho_106 ⟨rfl, by decide, ei_19, (List.mem_of_getElem? (i := 1771) (by decide +kernel)), .inr (List.mem_of_getElem? (i := 1770) (by decide +kernel))⟩ eo_19 en_19 e_oksI (.inl rfl) (by decide +kernel) rfl : e_Sn 106 7 (o_putf (e_f1 19 2) e_okI 10)) t_106_10 (e_cg_putf (e_f1 19 2) e_okI)
noncomputable def n_106_6 : e_Y := u_bin a_iadd (u_old (o_iadd 7) n_106_7) n_106_7
theorem t_106_6 : e_Sn 106 6 (e_un n_106_6) := u_iaddT (s_iadd hq_106 (by decide +kernel) rfl : e_Sn 106 6 (o_iadd 7)) t_106_7
noncomputable def n_106_5 : e_Y := u_push (.inl 2147483649) n_106_6
theorem t_106_5 : e_Sn 106 5 (e_un n_106_5) := u_pushT (s_iconst (n := (1)) hq_106 (by decide +kernel) rfl ⟨by decide +kernel, by decide +kernel⟩ : e_Sn 106 5 (o_push (.inl 2147483649) 6)) t_106_6
noncomputable def n_106_2 : e_Y := u_getf 19 2 (u_old (o_getf (e_f1 19 2) 5) n_106_5) n_106_5
theorem t_106_2 : e_Sn 106 2 (e_un n_106_2) := u_getfT (s_getf (C := er_19) (T := et_19) (N := 3) (ref := "java/util/ArrayList") (index := 63) (ci := 19) (k := 2) hq_106 ho_106 ⟨rfl, by decide, ei_19, (List.mem_of_getElem? (i := 1771) (by decide +kernel)), .inr (List.mem_of_getElem? (i := 1770) (by decide +kernel))⟩ (by decide +kernel) rfl : e_Sn 106 2 (o_getf (e_f1 19 2) 5)) t_106_5
noncomputable def n_106_1 : e_Y := u_old (o_dup 2) n_106_2
theorem t_106_1 : e_Sn 106 1 (e_un n_106_1) := u_oldT (s_dup hq_106 (by decide +kernel) rfl : e_Sn 106 1 (o_dup 2)) t_106_2 e_cg_dup
noncomputable def n_106_0 : e_Y := u_ld f_okA f_l0 n_106_1
theorem t_106_0 : e_Sn 106 0 (e_un n_106_0) := u_ldAT f_l0_eq (s_aload (i := .aload_n 0) (len := 1) hq_106 (by decide +kernel) rfl (.inr ⟨0, rfl, rfl, rfl⟩) : e_Sn 106 0 (o_load e_okR 0 1)) t_106_1
noncomputable def e_tb_106 : e_X := (e_lf 0 (e_un n_106_0))
theorem e_tk_106 : e_Tb 106 e_tb_106 := (e_lfT t_106_0)
theorem hq_111 : (e_ml[111]?).map (·.2.1) = some prog_50_method_29_code := rfl
theorem ho_111 : (e_ml[111]?).map (·.1.cls) = some "java/util/ArrayList" := rfl
theorem hr_111 : (e_ml[111]?).map (·.2.2.2) = some (some (.object "java/lang/Object")) := rfl
noncomputable def n_111_25 : e_Y := u_retA
theorem t_111_25 : e_Sn 111 25 (e_un n_111_25) := u_retAT (s_aret (.inl ⟨_, rfl⟩) hq_111 hr_111 (by decide +kernel) : e_Sn 111 25 (o_ret e_okR))
noncomputable def n_111_24 : e_Y := u_ld f_okA f_l3 n_111_25
theorem t_111_24 : e_Sn 111 24 (e_un n_111_24) := u_ldAT f_l3_eq (s_aload (i := .aload_n 3) (len := 1) hq_111 (by decide +kernel) rfl (.inr ⟨3, rfl, rfl, rfl⟩) : e_Sn 111 24 (o_load e_okR 3 25)) t_111_25
noncomputable def n_111_21 : e_Y := u_callV 19 106 4 23 3 n_106_0 n_111_24
theorem t_111_21 : e_Sn 111 21 (e_un n_111_21) := u_callVT rfl (s_callV (ci := 19) (C := er_19) (T := et_19) (N := 3) (index := 144) hq_111 ho_111 hy_106 hp_106 hc_106 hi_106 hd_106 (List.mem_of_getElem? (i := 2027) (by decide +kernel)) hs_106 (List.mem_of_getElem? (i := 75) (by decide +kernel)) rfl (by decide +kernel) rfl : e_Sn 111 21 (o_callV (e_s1 19 106 4) 3 24)) t_106_0 t_111_24
noncomputable def n_111_20 : e_Y := u_ld f_okI f_l1 n_111_21
theorem t_111_20 : e_Sn 111 20 (e_un n_111_20) := u_ldIT f_l1_eq (s_iload (i := .iload_n 1) (len := 1) hq_111 (by decide +kernel) rfl (.inr ⟨1, rfl, rfl, rfl⟩) : e_Sn 111 20 (o_load e_okI 1 21)) t_111_21
noncomputable def n_111_19 : e_Y := u_ld f_okA f_l2 n_111_20
theorem t_111_19 : e_Sn 111 19 (e_un n_111_19) := u_ldAT f_l2_eq (s_aload (i := .aload_n 2) (len := 1) hq_111 (by decide +kernel) rfl (.inr ⟨2, rfl, rfl, rfl⟩) : e_Sn 111 19 (o_load e_okR 2 20)) t_111_20
noncomputable def n_111_18 : e_Y := u_ld f_okA f_l0 n_111_19
theorem t_111_18 : e_Sn 111 18 (e_un n_111_18) := u_ldAT f_l0_eq (s_aload (i := .aload_n 0) (len := 1) hq_111 (by decide +kernel) rfl (.inr ⟨0, rfl, rfl, rfl⟩) : e_Sn 111 18 (o_load e_okR 0 19)) t_111_19
noncomputable def n_111_17 : e_Y := u_st f_okA f_s3 n_111_18
theorem t_111_17 : e_Sn 111 17 (e_un n_111_17) := u_stAT (fun _ _ _ => f_s3_eq) (s_astore (i := .astore_n 3) (len := 1) hq_111 (by decide +kernel) rfl (.inr ⟨3, rfl, rfl, rfl⟩) : e_Sn 111 17 (o_store e_okR 3 18)) t_111_18
noncomputable def n_111_16 : e_Y := u_ald 3 (u_old (o_aldO 3 17) n_111_17) n_111_17
theorem t_111_16 : e_Sn 111 16 (e_un n_111_16) := u_aldOT (s_aald (tc := 0) rfl hq_111 (by decide +kernel) rfl : e_Sn 111 16 (o_aldO 3 17)) t_111_17
noncomputable def n_111_15 : e_Y := u_ld f_okI f_l1 n_111_16
theorem t_111_15 : e_Sn 111 15 (e_un n_111_15) := u_ldIT f_l1_eq (s_iload (i := .iload_n 1) (len := 1) hq_111 (by decide +kernel) rfl (.inr ⟨1, rfl, rfl, rfl⟩) : e_Sn 111 15 (o_load e_okI 1 16)) t_111_16
noncomputable def n_111_14 : e_Y := u_ld f_okA f_l2 n_111_15
theorem t_111_14 : e_Sn 111 14 (e_un n_111_14) := u_ldAT f_l2_eq (s_aload (i := .aload_n 2) (len := 1) hq_111 (by decide +kernel) rfl (.inr ⟨2, rfl, rfl, rfl⟩) : e_Sn 111 14 (o_load e_okR 2 15)) t_111_15
noncomputable def n_111_13 : e_Y := u_st f_okA f_s2 n_111_14
theorem t_111_13 : e_Sn 111 13 (e_un n_111_13) := u_stAT (fun _ _ _ => f_s2_eq) (s_astore (i := .astore_n 2) (len := 1) hq_111 (by decide +kernel) rfl (.inr ⟨2, rfl, rfl, rfl⟩) : e_Sn 111 13 (o_store e_okR 2 14)) t_111_14
noncomputable def n_111_10 : e_Y := u_getf 19 0 (u_old (o_getf (e_f1 19 0) 13) n_111_13) n_111_13
theorem t_111_10 : e_Sn 111 10 (e_un n_111_10) := u_getfT (s_getf (C := er_19) (T := et_19) (N := 3) (ref := "java/util/ArrayList") (index := 9) (ci := 19) (k := 0) hq_111 ho_111 ⟨rfl, by decide, ei_19, (List.mem_of_getElem? (i := 1764) (by decide +kernel)), .inl rfl⟩ (by decide +kernel) rfl : e_Sn 111 10 (o_getf (e_f1 19 0) 13)) t_111_13
noncomputable def n_111_9 : e_Y := u_ld f_okA f_l0 n_111_10
theorem t_111_9 : e_Sn 111 9 (e_un n_111_9) := u_ldAT f_l0_eq (s_aload (i := .aload_n 0) (len := 1) hq_111 (by decide +kernel) rfl (.inr ⟨0, rfl, rfl, rfl⟩) : e_Sn 111 9 (o_load e_okR 0 10)) t_111_10
noncomputable def n_111_8 : e_Y := u_pop n_111_9
theorem t_111_8 : e_Sn 111 8 (e_un n_111_8) := u_popT (s_pop hq_111 (by decide +kernel) rfl : e_Sn 111 8 (o_pop 9)) t_111_9
noncomputable def n_111_5 : e_Y := u_callS 114 2 21 2 n_114_0 n_111_8
theorem t_111_5 : e_Sn 111 5 (e_un n_111_5) := u_callST rfl (s_callS (index := 118) hq_111 ho_111 hy_114 hp_114 hc_114 hi_114 hd_114 (List.mem_of_getElem? (i := 2021) (by decide +kernel)) hs_114 (by decide +kernel) rfl : e_Sn 111 5 (o_callS 114 2 2 8)) t_114_0 t_111_8
noncomputable def n_111_2 : e_Y := u_getf 19 1 (u_old (o_getf (e_f1 19 1) 5) n_111_5) n_111_5
theorem t_111_2 : e_Sn 111 2 (e_un n_111_2) := u_getfT (s_getf (C := er_19) (T := et_19) (N := 3) (ref := "java/util/ArrayList") (index := 48) (ci := 19) (k := 1) hq_111 ho_111 ⟨rfl, by decide, ei_19, (List.mem_of_getElem? (i := 1767) (by decide +kernel)), .inl rfl⟩ (by decide +kernel) rfl : e_Sn 111 2 (o_getf (e_f1 19 1) 5)) t_111_5
noncomputable def n_111_1 : e_Y := u_ld f_okA f_l0 n_111_2
theorem t_111_1 : e_Sn 111 1 (e_un n_111_1) := u_ldAT f_l0_eq (s_aload (i := .aload_n 0) (len := 1) hq_111 (by decide +kernel) rfl (.inr ⟨0, rfl, rfl, rfl⟩) : e_Sn 111 1 (o_load e_okR 0 2)) t_111_2
noncomputable def n_111_0 : e_Y := u_ld f_okI f_l1 n_111_1
theorem t_111_0 : e_Sn 111 0 (e_un n_111_0) := u_ldIT f_l1_eq (s_iload (i := .iload_n 1) (len := 1) hq_111 (by decide +kernel) rfl (.inr ⟨1, rfl, rfl, rfl⟩) : e_Sn 111 0 (o_load e_okI 1 1)) t_111_1
noncomputable def e_tb_111 : e_X := (e_lf 0 (e_un n_111_0))
theorem e_tk_111 : e_Tb 111 e_tb_111 := (e_lfT t_111_0)
theorem hq_82 : (e_ml[82]?).map (·.2.1) = some prog_20_method_4_code := rfl
theorem ho_82 : (e_ml[82]?).map (·.1.cls) = some "PlateroomprinterModel$Run" := rfl
theorem hr_82 : (e_ml[82]?).map (·.2.2.2) = some (some .boolean) := rfl
noncomputable def n_82_75 : e_Y := u_tab (o_ret e_okZ)
theorem t_82_75 : e_Sn 82 75 (e_un n_82_75) := u_tabT (s_zret hq_82 hr_82 (by decide +kernel) : e_Sn 82 75 (o_ret e_okZ))
noncomputable def n_82_74 : e_Y := u_push (.inl 2147483648) n_82_75
theorem t_82_74 : e_Sn 82 74 (e_un n_82_74) := u_pushT (s_iconst (n := (0)) hq_82 (by decide +kernel) rfl ⟨by decide +kernel, by decide +kernel⟩ : e_Sn 82 74 (o_push (.inl 2147483648) 75)) t_82_75
noncomputable def n_82_71 : e_Y := n_82_75
theorem t_82_71 : e_Sn 82 71 (e_un n_82_71) := u_gotoT (s_goto (off := (4)) hq_82 (by decide +kernel) rfl : e_Sn 82 71 (o_goto 75)) t_82_75
noncomputable def n_82_70 : e_Y := u_push (.inl 2147483649) n_82_71
theorem t_82_70 : e_Sn 82 70 (e_un n_82_70) := u_pushT (s_iconst (n := (1)) hq_82 (by decide +kernel) rfl ⟨by decide +kernel, by decide +kernel⟩ : e_Sn 82 70 (o_push (.inl 2147483649) 71)) t_82_71
noncomputable def n_82_67 : e_Y := u_if y_ne0 (u_old2 (o_ifeq 70 74) 70 n_82_70 n_82_74) n_82_70 n_82_74
theorem t_82_67 : e_Sn 82 67 (e_un n_82_67) := u_ifeqT rfl (s_ifne (off := (7)) hq_82 (by decide +kernel) rfl rfl : e_Sn 82 67 (o_ifeq 70 74)) t_82_70 t_82_74
noncomputable def n_82_64 : e_Y := u_callV 19 110 1 20 1 n_110_0 n_82_67
theorem t_82_64 : e_Sn 82 64 (e_un n_82_64) := u_callVT rfl (s_callV (ci := 19) (C := er_19) (T := et_19) (N := 3) (index := 81) hq_82 ho_82 hy_110 hp_110 hc_110 hi_110 hd_110 (List.mem_of_getElem? (i := 2176) (by decide +kernel)) hs_110 (List.mem_of_getElem? (i := 2015) (by decide +kernel)) rfl (by decide +kernel) rfl : e_Sn 82 64 (o_callV (e_s1 19 110 1) 1 67)) t_110_0 t_82_67
noncomputable def n_82_61 : e_Y := u_getf 16 1 (u_old (o_getf (e_f1 16 1) 64) n_82_64) n_82_64
theorem t_82_61 : e_Sn 82 61 (e_un n_82_61) := u_getfT (s_getf (C := er_16) (T := et_16) (N := 5) (ref := "PlateroomprinterModel$Run") (index := 12) (ci := 16) (k := 1) hq_82 ho_82 ⟨rfl, by decide, ei_16, (List.mem_of_getElem? (i := 2151) (by decide +kernel)), .inl rfl⟩ (by decide +kernel) rfl : e_Sn 82 61 (o_getf (e_f1 16 1) 64)) t_82_64
noncomputable def n_82_60 : e_Y := u_ld f_okA f_l0 n_82_61
theorem t_82_60 : e_Sn 82 60 (e_un n_82_60) := u_ldAT f_l0_eq (s_aload (i := .aload_n 0) (len := 1) hq_82 (by decide +kernel) rfl (.inr ⟨0, rfl, rfl, rfl⟩) : e_Sn 82 60 (o_load e_okR 0 61)) t_82_61
noncomputable def n_82_57 : e_Y := (u_at 0)
theorem t_82_57 : e_Sn 82 57 (e_un n_82_57) := u_gotoT (s_goto (off := (-57)) hq_82 (by decide +kernel) rfl : e_Sn 82 57 (o_goto 0)) u_atT
noncomputable def n_82_56 : e_Y := u_pop n_82_57
theorem t_82_56 : e_Sn 82 56 (e_un n_82_56) := u_popT (s_pop hq_82 (by decide +kernel) rfl : e_Sn 82 56 (o_pop 57)) t_82_57
noncomputable def n_82_53 : e_Y := u_callV 19 111 4 23 2 n_111_0 n_82_56
theorem t_82_53 : e_Sn 82 53 (e_un n_82_53) := u_callVT rfl (s_callV (ci := 19) (C := er_19) (T := et_19) (N := 3) (index := 95) hq_82 ho_82 hy_111 hp_111 hc_111 hi_111 hd_111 (List.mem_of_getElem? (i := 2253) (by decide +kernel)) hs_111 (List.mem_of_getElem? (i := 2019) (by decide +kernel)) rfl (by decide +kernel) rfl : e_Sn 82 53 (o_callV (e_s1 19 111 4) 2 56)) t_111_0 t_82_56
noncomputable def n_82_52 : e_Y := u_bin a_isub (u_old (o_isub 53) n_82_53) n_82_53
theorem t_82_52 : e_Sn 82 52 (e_un n_82_52) := u_isubT (s_isub hq_82 (by decide +kernel) rfl : e_Sn 82 52 (o_isub 53)) t_82_53
noncomputable def n_82_51 : e_Y := u_push (.inl 2147483649) n_82_52
theorem t_82_51 : e_Sn 82 51 (e_un n_82_51) := u_pushT (s_iconst (n := (1)) hq_82 (by decide +kernel) rfl ⟨by decide +kernel, by decide +kernel⟩ : e_Sn 82 51 (o_push (.inl 2147483649) 52)) t_82_52
noncomputable def n_82_48 : e_Y := u_callV 19 113 1 20 1 n_113_0 n_82_51
theorem t_82_48 : e_Sn 82 48 (e_un n_82_48) := u_callVT rfl (s_callV (ci := 19) (C := er_19) (T := et_19) (N := 3) (index := 38) hq_82 ho_82 hy_113 hp_113 hc_113 hi_113 hd_113 (List.mem_of_getElem? (i := 2181) (by decide +kernel)) hs_113 (List.mem_of_getElem? (i := 2002) (by decide +kernel)) rfl (by decide +kernel) rfl : e_Sn 82 48 (o_callV (e_s1 19 113 1) 1 51)) t_113_0 t_82_51
noncomputable def n_82_45 : e_Y := u_getf 16 1 (u_old (o_getf (e_f1 16 1) 48) n_82_48) n_82_48
theorem t_82_45 : e_Sn 82 45 (e_un n_82_45) := u_getfT (s_getf (C := er_16) (T := et_16) (N := 5) (ref := "PlateroomprinterModel$Run") (index := 12) (ci := 16) (k := 1) hq_82 ho_82 ⟨rfl, by decide, ei_16, (List.mem_of_getElem? (i := 2151) (by decide +kernel)), .inl rfl⟩ (by decide +kernel) rfl : e_Sn 82 45 (o_getf (e_f1 16 1) 48)) t_82_48
noncomputable def n_82_44 : e_Y := u_ld f_okA f_l0 n_82_45
theorem t_82_44 : e_Sn 82 44 (e_un n_82_44) := u_ldAT f_l0_eq (s_aload (i := .aload_n 0) (len := 1) hq_82 (by decide +kernel) rfl (.inr ⟨0, rfl, rfl, rfl⟩) : e_Sn 82 44 (o_load e_okR 0 45)) t_82_45
noncomputable def n_82_41 : e_Y := u_getf 16 1 (u_old (o_getf (e_f1 16 1) 44) n_82_44) n_82_44
theorem t_82_41 : e_Sn 82 41 (e_un n_82_41) := u_getfT (s_getf (C := er_16) (T := et_16) (N := 5) (ref := "PlateroomprinterModel$Run") (index := 12) (ci := 16) (k := 1) hq_82 ho_82 ⟨rfl, by decide, ei_16, (List.mem_of_getElem? (i := 2151) (by decide +kernel)), .inl rfl⟩ (by decide +kernel) rfl : e_Sn 82 41 (o_getf (e_f1 16 1) 44)) t_82_44
noncomputable def n_82_40 : e_Y := u_ld f_okA f_l0 n_82_41
theorem t_82_40 : e_Sn 82 40 (e_un n_82_40) := u_ldAT f_l0_eq (s_aload (i := .aload_n 0) (len := 1) hq_82 (by decide +kernel) rfl (.inr ⟨0, rfl, rfl, rfl⟩) : e_Sn 82 40 (o_load e_okR 0 41)) t_82_41
noncomputable def n_82_37 : e_Y := u_if y_ne0 (u_old2 (o_ifeq 40 57) 40 n_82_40 n_82_57) n_82_40 n_82_57
theorem t_82_37 : e_Sn 82 37 (e_un n_82_37) := u_ifeqT rfl (s_ifne (off := (20)) hq_82 (by decide +kernel) rfl rfl : e_Sn 82 37 (o_ifeq 40 57)) t_82_40 t_82_57
noncomputable def n_82_34 : e_Y := u_callV 16 83 2 21 2 n_83_0 n_82_37
theorem t_82_34 : e_Sn 82 34 (e_un n_82_34) := u_callVT rfl (s_callV (ci := 16) (C := er_16) (T := et_16) (N := 5) (index := 91) hq_82 ho_82 hy_83 hp_83 hc_83 hi_83 hd_83 (List.mem_of_getElem? (i := 2188) (by decide +kernel)) hs_83 (List.mem_of_getElem? (i := 78) (by decide +kernel)) rfl (by decide +kernel) rfl : e_Sn 82 34 (o_callV (e_s1 16 83 2) 2 37)) t_83_0 t_82_37
noncomputable def n_82_33 : e_Y := u_ld f_okA f_l1 n_82_34
theorem t_82_33 : e_Sn 82 33 (e_un n_82_33) := u_ldAT f_l1_eq (s_aload (i := .aload_n 1) (len := 1) hq_82 (by decide +kernel) rfl (.inr ⟨1, rfl, rfl, rfl⟩) : e_Sn 82 33 (o_load e_okR 1 34)) t_82_34
noncomputable def n_82_32 : e_Y := u_ld f_okA f_l0 n_82_33
theorem t_82_32 : e_Sn 82 32 (e_un n_82_32) := u_ldAT f_l0_eq (s_aload (i := .aload_n 0) (len := 1) hq_82 (by decide +kernel) rfl (.inr ⟨0, rfl, rfl, rfl⟩) : e_Sn 82 32 (o_load e_okR 0 33)) t_82_33
noncomputable def n_82_29 : e_Y := u_if y_ne0 (u_old2 (o_ifeq 40 32) 40 n_82_40 n_82_32) n_82_40 n_82_32
theorem t_82_29 : e_Sn 82 29 (e_un n_82_29) := u_ifeqT rfl (s_ifeq (off := (11)) hq_82 (by decide +kernel) rfl rfl : e_Sn 82 29 (o_ifeq 40 32)) t_82_40 t_82_32
noncomputable def n_82_26 : e_Y := u_getf 15 2 (u_old (o_getf (e_f1 15 2) 29) n_82_29) n_82_29
theorem t_82_26 : e_Sn 82 26 (e_un n_82_26) := u_getfT (s_getf (C := er_15) (T := et_15) (N := 8) (ref := "PlateroomprinterModel$Row") (index := 87) (ci := 15) (k := 2) hq_82 ho_82 ⟨rfl, by decide, ei_15, (List.mem_of_getElem? (i := 2126) (by decide +kernel)), .inl rfl⟩ (by decide +kernel) rfl : e_Sn 82 26 (o_getf (e_f1 15 2) 29)) t_82_29
noncomputable def n_82_25 : e_Y := u_ld f_okA f_l1 n_82_26
theorem t_82_25 : e_Sn 82 25 (e_un n_82_25) := u_ldAT f_l1_eq (s_aload (i := .aload_n 1) (len := 1) hq_82 (by decide +kernel) rfl (.inr ⟨1, rfl, rfl, rfl⟩) : e_Sn 82 25 (o_load e_okR 1 26)) t_82_26
noncomputable def n_82_24 : e_Y := u_st f_okA f_s1 n_82_25
theorem t_82_24 : e_Sn 82 24 (e_un n_82_24) := u_stAT (fun _ _ _ => f_s1_eq) (s_astore (i := .astore_n 1) (len := 1) hq_82 (by decide +kernel) rfl (.inr ⟨1, rfl, rfl, rfl⟩) : e_Sn 82 24 (o_store e_okR 1 25)) t_82_25
noncomputable def n_82_21 : e_Y := u_callV 16 95 1 20 1 n_95_0 n_82_24
theorem t_82_21 : e_Sn 82 21 (e_un n_82_21) := u_callVT rfl (s_callV (ci := 16) (C := er_16) (T := et_16) (N := 5) (index := 53) hq_82 ho_82 hy_95 hp_95 hc_95 hi_95 hd_95 (List.mem_of_getElem? (i := 2177) (by decide +kernel)) hs_95 (List.mem_of_getElem? (i := 77) (by decide +kernel)) rfl (by decide +kernel) rfl : e_Sn 82 21 (o_callV (e_s1 16 95 1) 1 24)) t_95_0 t_82_24
noncomputable def n_82_20 : e_Y := u_ld f_okA f_l0 n_82_21
theorem t_82_20 : e_Sn 82 20 (e_un n_82_20) := u_ldAT f_l0_eq (s_aload (i := .aload_n 0) (len := 1) hq_82 (by decide +kernel) rfl (.inr ⟨0, rfl, rfl, rfl⟩) : e_Sn 82 20 (o_load e_okR 0 21)) t_82_21
noncomputable def n_82_17 : e_Y := u_if y_ne0 (u_old2 (o_ifeq 60 20) 60 n_82_60 n_82_20) n_82_60 n_82_20
theorem t_82_17 : e_Sn 82 17 (e_un n_82_17) := u_ifeqT rfl (s_ifeq (off := (43)) hq_82 (by decide +kernel) rfl rfl : e_Sn 82 17 (o_ifeq 60 20)) t_82_60 t_82_20
noncomputable def n_82_14 : e_Y := u_callV 15 75 1 20 1 n_75_0 n_82_17
theorem t_82_14 : e_Sn 82 14 (e_un n_82_14) := u_callVT rfl (s_callV (ci := 15) (C := er_15) (T := et_15) (N := 8) (index := 84) hq_82 ho_82 hy_75 hp_75 hc_75 hi_75 hd_75 (List.mem_of_getElem? (i := 2183) (by decide +kernel)) hs_75 (List.mem_of_getElem? (i := 2185) (by decide +kernel)) rfl (by decide +kernel) rfl : e_Sn 82 14 (o_callV (e_s1 15 75 1) 1 17)) t_75_0 t_82_17
noncomputable def n_82_11 : e_Y := u_callV 16 95 1 20 1 n_95_0 n_82_14
theorem t_82_11 : e_Sn 82 11 (e_un n_82_11) := u_callVT rfl (s_callV (ci := 16) (C := er_16) (T := et_16) (N := 5) (index := 53) hq_82 ho_82 hy_95 hp_95 hc_95 hi_95 hd_95 (List.mem_of_getElem? (i := 2177) (by decide +kernel)) hs_95 (List.mem_of_getElem? (i := 77) (by decide +kernel)) rfl (by decide +kernel) rfl : e_Sn 82 11 (o_callV (e_s1 16 95 1) 1 14)) t_95_0 t_82_14
noncomputable def n_82_10 : e_Y := u_ld f_okA f_l0 n_82_11
theorem t_82_10 : e_Sn 82 10 (e_un n_82_10) := u_ldAT f_l0_eq (s_aload (i := .aload_n 0) (len := 1) hq_82 (by decide +kernel) rfl (.inr ⟨0, rfl, rfl, rfl⟩) : e_Sn 82 10 (o_load e_okR 0 11)) t_82_11
noncomputable def n_82_7 : e_Y := u_if y_ne0 (u_old2 (o_ifeq 10 60) 10 n_82_10 n_82_60) n_82_10 n_82_60
theorem t_82_7 : e_Sn 82 7 (e_un n_82_7) := u_ifeqT rfl (s_ifne (off := (53)) hq_82 (by decide +kernel) rfl rfl : e_Sn 82 7 (o_ifeq 10 60)) t_82_10 t_82_60
noncomputable def n_82_4 : e_Y := u_callV 19 110 1 20 1 n_110_0 n_82_7
theorem t_82_4 : e_Sn 82 4 (e_un n_82_4) := u_callVT rfl (s_callV (ci := 19) (C := er_19) (T := et_19) (N := 3) (index := 81) hq_82 ho_82 hy_110 hp_110 hc_110 hi_110 hd_110 (List.mem_of_getElem? (i := 2176) (by decide +kernel)) hs_110 (List.mem_of_getElem? (i := 2015) (by decide +kernel)) rfl (by decide +kernel) rfl : e_Sn 82 4 (o_callV (e_s1 19 110 1) 1 7)) t_110_0 t_82_7
noncomputable def n_82_1 : e_Y := u_getf 16 1 (u_old (o_getf (e_f1 16 1) 4) n_82_4) n_82_4
theorem t_82_1 : e_Sn 82 1 (e_un n_82_1) := u_getfT (s_getf (C := er_16) (T := et_16) (N := 5) (ref := "PlateroomprinterModel$Run") (index := 12) (ci := 16) (k := 1) hq_82 ho_82 ⟨rfl, by decide, ei_16, (List.mem_of_getElem? (i := 2151) (by decide +kernel)), .inl rfl⟩ (by decide +kernel) rfl : e_Sn 82 1 (o_getf (e_f1 16 1) 4)) t_82_4
noncomputable def n_82_0 : e_Y := u_ld f_okA f_l0 n_82_1
theorem t_82_0 : e_Sn 82 0 (e_un n_82_0) := u_ldAT f_l0_eq (s_aload (i := .aload_n 0) (len := 1) hq_82 (by decide +kernel) rfl (.inr ⟨0, rfl, rfl, rfl⟩) : e_Sn 82 0 (o_load e_okR 0 1)) t_82_1
noncomputable def e_tb_82 : e_X := (e_lf 0 (e_un n_82_0))
theorem e_tk_82 : e_Tb 82 e_tb_82 := (e_lfT t_82_0)
theorem hq_81 : (e_ml[81]?).map (·.2.1) = some prog_20_method_7_code := rfl
theorem ho_81 : (e_ml[81]?).map (·.1.cls) = some "PlateroomprinterModel$Run" := rfl
theorem hr_81 : (e_ml[81]?).map (·.2.2.2) = some none := rfl
noncomputable def n_81_31 : e_Y := u_tab (o_retv)
theorem t_81_31 : e_Sn 81 31 (e_un n_81_31) := u_tabT (s_vret hq_81 hr_81 (by decide +kernel) : e_Sn 81 31 (o_retv))
noncomputable def n_81_30 : e_Y := u_pop n_81_31
theorem t_81_30 : e_Sn 81 30 (e_un n_81_30) := u_popT (s_pop hq_81 (by decide +kernel) rfl : e_Sn 81 30 (o_pop 31)) t_81_31
noncomputable def n_81_27 : e_Y := u_callV 19 103 2 21 2 n_103_0 n_81_30
theorem t_81_27 : e_Sn 81 27 (e_un n_81_27) := u_callVT rfl (s_callV (ci := 19) (C := er_19) (T := et_19) (N := 3) (index := 34) hq_81 ho_81 hy_103 hp_103 hc_103 hi_103 hd_103 (List.mem_of_getElem? (i := 2149) (by decide +kernel)) hs_103 (List.mem_of_getElem? (i := 1822) (by decide +kernel)) rfl (by decide +kernel) rfl : e_Sn 81 27 (o_callV (e_s1 19 103 2) 2 30)) t_103_0 t_81_30
noncomputable def n_81_26 : e_Y := u_ld f_okA f_l1 n_81_27
theorem t_81_26 : e_Sn 81 26 (e_un n_81_26) := u_ldAT f_l1_eq (s_aload (i := .aload_n 1) (len := 1) hq_81 (by decide +kernel) rfl (.inr ⟨1, rfl, rfl, rfl⟩) : e_Sn 81 26 (o_load e_okR 1 27)) t_81_27
noncomputable def n_81_23 : e_Y := u_getf 16 1 (u_old (o_getf (e_f1 16 1) 26) n_81_26) n_81_26
theorem t_81_23 : e_Sn 81 23 (e_un n_81_23) := u_getfT (s_getf (C := er_16) (T := et_16) (N := 5) (ref := "PlateroomprinterModel$Run") (index := 12) (ci := 16) (k := 1) hq_81 ho_81 ⟨rfl, by decide, ei_16, (List.mem_of_getElem? (i := 2151) (by decide +kernel)), .inl rfl⟩ (by decide +kernel) rfl : e_Sn 81 23 (o_getf (e_f1 16 1) 26)) t_81_26
noncomputable def n_81_22 : e_Y := u_ld f_okA f_l0 n_81_23
theorem t_81_22 : e_Sn 81 22 (e_un n_81_22) := u_ldAT f_l0_eq (s_aload (i := .aload_n 0) (len := 1) hq_81 (by decide +kernel) rfl (.inr ⟨0, rfl, rfl, rfl⟩) : e_Sn 81 22 (o_load e_okR 0 23)) t_81_23
noncomputable def n_81_19 : e_Y := u_callS 66 2 21 2 n_66_0 n_81_22
theorem t_81_19 : e_Sn 81 19 (e_un n_81_19) := u_callST rfl (s_callSN (host := "PlateroomprinterModel") (index := 73) hq_81 ho_81 hy_66 hp_66 hc_66 hi_66 hd_66 (List.mem_of_getElem? (i := 2203) (by decide +kernel)) hs_66 (by decide +kernel) rfl : e_Sn 81 19 (o_callS 66 2 2 22)) t_66_0 t_81_22
noncomputable def n_81_17 : e_Y := u_push (.inl 2147483655) n_81_19
theorem t_81_17 : e_Sn 81 17 (e_un n_81_17) := u_pushT (s_bipush (n := (7)) hq_81 (by decide +kernel) rfl ⟨by decide +kernel, by decide +kernel⟩ : e_Sn 81 17 (o_push (.inl 2147483655) 19)) t_81_19
noncomputable def n_81_13 : e_Y := n_81_17
theorem t_81_13 : e_Sn 81 13 (e_un n_81_13) := u_gotoT (s_goto (off := (4)) hq_81 (by decide +kernel) rfl : e_Sn 81 13 (o_goto 17)) t_81_17
noncomputable def n_81_12 : e_Y := u_push (.inl 2147483649) n_81_13
theorem t_81_12 : e_Sn 81 12 (e_un n_81_12) := u_pushT (s_iconst (n := (1)) hq_81 (by decide +kernel) rfl ⟨by decide +kernel, by decide +kernel⟩ : e_Sn 81 12 (o_push (.inl 2147483649) 13)) t_81_13
noncomputable def n_81_9 : e_Y := u_jmp y_ge (u_old2 (o_clt 12 16) 12 n_81_12 (u_at 16)) n_81_12 (u_at 16)
theorem t_81_9 : e_Sn 81 9 (e_un n_81_9) := u_cltT rfl (s_cge (off := (7)) hq_81 (by decide +kernel) rfl rfl : e_Sn 81 9 (o_clt 12 16)) t_81_12 u_atT
noncomputable def n_81_7 : e_Y := u_push (.inl 2147483660) n_81_9
theorem t_81_7 : e_Sn 81 7 (e_un n_81_7) := u_pushT (s_bipush (n := (12)) hq_81 (by decide +kernel) rfl ⟨by decide +kernel, by decide +kernel⟩ : e_Sn 81 7 (o_push (.inl 2147483660) 9)) t_81_9
noncomputable def n_81_4 : e_Y := u_callV 19 113 1 20 1 n_113_0 n_81_7
theorem t_81_4 : e_Sn 81 4 (e_un n_81_4) := u_callVT rfl (s_callV (ci := 19) (C := er_19) (T := et_19) (N := 3) (index := 38) hq_81 ho_81 hy_113 hp_113 hc_113 hi_113 hd_113 (List.mem_of_getElem? (i := 2181) (by decide +kernel)) hs_113 (List.mem_of_getElem? (i := 2002) (by decide +kernel)) rfl (by decide +kernel) rfl : e_Sn 81 4 (o_callV (e_s1 19 113 1) 1 7)) t_113_0 t_81_7
noncomputable def n_81_1 : e_Y := u_getf 16 1 (u_old (o_getf (e_f1 16 1) 4) n_81_4) n_81_4
theorem t_81_1 : e_Sn 81 1 (e_un n_81_1) := u_getfT (s_getf (C := er_16) (T := et_16) (N := 5) (ref := "PlateroomprinterModel$Run") (index := 12) (ci := 16) (k := 1) hq_81 ho_81 ⟨rfl, by decide, ei_16, (List.mem_of_getElem? (i := 2151) (by decide +kernel)), .inl rfl⟩ (by decide +kernel) rfl : e_Sn 81 1 (o_getf (e_f1 16 1) 4)) t_81_4
noncomputable def n_81_0 : e_Y := u_ld f_okA f_l0 n_81_1
theorem t_81_0 : e_Sn 81 0 (e_un n_81_0) := u_ldAT f_l0_eq (s_aload (i := .aload_n 0) (len := 1) hq_81 (by decide +kernel) rfl (.inr ⟨0, rfl, rfl, rfl⟩) : e_Sn 81 0 (o_load e_okR 0 1)) t_81_1
noncomputable def e_tb_81 : e_X := (e_lf 0 (e_un n_81_0))
theorem e_tk_81 : e_Tb 81 e_tb_81 := (e_lfT t_81_0)
theorem hq_79 : (e_ml[79]?).map (·.2.1) = some prog_20_method_20_code := rfl
theorem ho_79 : (e_ml[79]?).map (·.1.cls) = some "PlateroomprinterModel$Run" := rfl
theorem hr_79 : (e_ml[79]?).map (·.2.2.2) = some none := rfl
noncomputable def n_79_69 : e_Y := u_tab (o_retv)
theorem t_79_69 : e_Sn 79 69 (e_un n_79_69) := u_tabT (s_vret hq_79 hr_79 (by decide +kernel) : e_Sn 79 69 (o_retv))
noncomputable def n_79_66 : e_Y := u_callV 16 92 2 21 2 n_92_0 n_79_69
theorem t_79_66 : e_Sn 79 66 (e_un n_79_66) := u_callVT rfl (s_callV (ci := 16) (C := er_16) (T := et_16) (N := 5) (index := 114) hq_79 ho_79 hy_92 hp_92 hc_92 hi_92 hd_92 (List.mem_of_getElem? (i := 2192) (by decide +kernel)) hs_92 (List.mem_of_getElem? (i := 79) (by decide +kernel)) rfl (by decide +kernel) rfl : e_Sn 79 66 (o_callV (e_s1 16 92 2) 2 69)) t_92_0 t_79_69
noncomputable def n_79_65 : e_Y := u_ld f_okA f_l1 n_79_66
theorem t_79_65 : e_Sn 79 65 (e_un n_79_65) := u_ldAT f_l1_eq (s_aload (i := .aload_n 1) (len := 1) hq_79 (by decide +kernel) rfl (.inr ⟨1, rfl, rfl, rfl⟩) : e_Sn 79 65 (o_load e_okR 1 66)) t_79_66
noncomputable def n_79_64 : e_Y := u_ld f_okA f_l0 n_79_65
theorem t_79_64 : e_Sn 79 64 (e_un n_79_64) := u_ldAT f_l0_eq (s_aload (i := .aload_n 0) (len := 1) hq_79 (by decide +kernel) rfl (.inr ⟨0, rfl, rfl, rfl⟩) : e_Sn 79 64 (o_load e_okR 0 65)) t_79_65
noncomputable def n_79_61 : e_Y := u_callV 16 81 2 21 2 n_81_0 n_79_64
theorem t_79_61 : e_Sn 79 61 (e_un n_79_61) := u_callVT rfl (s_callV (ci := 16) (C := er_16) (T := et_16) (N := 5) (index := 182) hq_79 ho_79 hy_81 hp_81 hc_81 hi_81 hd_81 (List.mem_of_getElem? (i := 2287) (by decide +kernel)) hs_81 (List.mem_of_getElem? (i := 89) (by decide +kernel)) rfl (by decide +kernel) rfl : e_Sn 79 61 (o_callV (e_s1 16 81 2) 2 64)) t_81_0 t_79_64
noncomputable def n_79_60 : e_Y := u_ld f_okA f_l1 n_79_61
theorem t_79_60 : e_Sn 79 60 (e_un n_79_60) := u_ldAT f_l1_eq (s_aload (i := .aload_n 1) (len := 1) hq_79 (by decide +kernel) rfl (.inr ⟨1, rfl, rfl, rfl⟩) : e_Sn 79 60 (o_load e_okR 1 61)) t_79_61
noncomputable def n_79_59 : e_Y := u_ld f_okA f_l0 n_79_60
theorem t_79_59 : e_Sn 79 59 (e_un n_79_59) := u_ldAT f_l0_eq (s_aload (i := .aload_n 0) (len := 1) hq_79 (by decide +kernel) rfl (.inr ⟨0, rfl, rfl, rfl⟩) : e_Sn 79 59 (o_load e_okR 0 60)) t_79_60
noncomputable def n_79_55 : e_Y := u_if y_ne0 (u_old2 (o_ifeq 58 59) 58 (u_at 58) n_79_59) (u_at 58) n_79_59
theorem t_79_55 : e_Sn 79 55 (e_un n_79_55) := u_ifeqT rfl (s_ifne (off := (4)) hq_79 (by decide +kernel) rfl rfl : e_Sn 79 55 (o_ifeq 58 59)) u_atT t_79_59
noncomputable def n_79_52 : e_Y := u_getf 15 3 (u_old (o_getf (e_f1 15 3) 55) n_79_55) n_79_55
theorem t_79_52 : e_Sn 79 52 (e_un n_79_52) := u_getfT (s_getf (C := er_15) (T := et_15) (N := 8) (ref := "PlateroomprinterModel$Row") (index := 111) (ci := 15) (k := 3) hq_79 ho_79 ⟨rfl, by decide, ei_15, (List.mem_of_getElem? (i := 2127) (by decide +kernel)), .inl rfl⟩ (by decide +kernel) rfl : e_Sn 79 52 (o_getf (e_f1 15 3) 55)) t_79_55
noncomputable def n_79_51 : e_Y := u_ld f_okA f_l1 n_79_52
theorem t_79_51 : e_Sn 79 51 (e_un n_79_51) := u_ldAT f_l1_eq (s_aload (i := .aload_n 1) (len := 1) hq_79 (by decide +kernel) rfl (.inr ⟨1, rfl, rfl, rfl⟩) : e_Sn 79 51 (o_load e_okR 1 52)) t_79_52
noncomputable def n_79_9 : e_Y := u_if y_ne0 (u_old2 (o_ifeq 51 12) 51 n_79_51 (u_at 12)) n_79_51 (u_at 12)
theorem t_79_9 : e_Sn 79 9 (e_un n_79_9) := u_ifeqT rfl (s_ifeq (off := (42)) hq_79 (by decide +kernel) rfl rfl : e_Sn 79 9 (o_ifeq 51 12)) t_79_51 u_atT
noncomputable def n_79_6 : e_Y := u_getf 15 4 (u_old (o_getf (e_f1 15 4) 9) n_79_9) n_79_9
theorem t_79_6 : e_Sn 79 6 (e_un n_79_6) := u_getfT (s_getf (C := er_15) (T := et_15) (N := 8) (ref := "PlateroomprinterModel$Row") (index := 98) (ci := 15) (k := 4) hq_79 ho_79 ⟨rfl, by decide, ei_15, (List.mem_of_getElem? (i := 2128) (by decide +kernel)), .inl rfl⟩ (by decide +kernel) rfl : e_Sn 79 6 (o_getf (e_f1 15 4) 9)) t_79_9
noncomputable def n_79_5 : e_Y := u_ld f_okA f_l1 n_79_6
theorem t_79_5 : e_Sn 79 5 (e_un n_79_5) := u_ldAT f_l1_eq (s_aload (i := .aload_n 1) (len := 1) hq_79 (by decide +kernel) rfl (.inr ⟨1, rfl, rfl, rfl⟩) : e_Sn 79 5 (o_load e_okR 1 6)) t_79_6
noncomputable def n_79_2 : e_Y := u_old (o_putf (e_f1 15 2) e_okZ 5) n_79_5
theorem t_79_2 : e_Sn 79 2 (e_un n_79_2) := u_oldT (s_putf (ty0 := ey_15) (ok := e_okZ) (C := er_15) (T := et_15) (N := 8) (ref := "PlateroomprinterModel$Row") (index := 87) (ci := 15) (k := 2) hq_79 ho_79 ⟨rfl, by decide, ei_15, (List.mem_of_getElem? (i := 2126) (by decide +kernel)), .inl rfl⟩ eo_15 en_15 e_oksZ (.inl rfl) (by decide +kernel) rfl : e_Sn 79 2 (o_putf (e_f1 15 2) e_okZ 5)) t_79_5 (e_cg_putf (e_f1 15 2) e_okZ)
noncomputable def n_79_1 : e_Y := u_push (.inl 2147483649) n_79_2
theorem t_79_1 : e_Sn 79 1 (e_un n_79_1) := u_pushT (s_iconst (n := (1)) hq_79 (by decide +kernel) rfl ⟨by decide +kernel, by decide +kernel⟩ : e_Sn 79 1 (o_push (.inl 2147483649) 2)) t_79_2
noncomputable def n_79_0 : e_Y := u_ld f_okA f_l1 n_79_1
theorem t_79_0 : e_Sn 79 0 (e_un n_79_0) := u_ldAT f_l1_eq (s_aload (i := .aload_n 1) (len := 1) hq_79 (by decide +kernel) rfl (.inr ⟨1, rfl, rfl, rfl⟩) : e_Sn 79 0 (o_load e_okR 1 1)) t_79_1
noncomputable def e_tb_79 : e_X := (e_lf 0 (e_un n_79_0))
theorem e_tk_79 : e_Tb 79 e_tb_79 := (e_lfT t_79_0)
theorem hq_78 : (e_ml[78]?).map (·.2.1) = some prog_20_method_10_code := rfl
theorem ho_78 : (e_ml[78]?).map (·.1.cls) = some "PlateroomprinterModel$Run" := rfl
theorem hr_78 : (e_ml[78]?).map (·.2.2.2) = some (some (.object "PlateroomprinterModel$Item")) := rfl
noncomputable def n_78_47 : e_Y := u_retA
theorem t_78_47 : e_Sn 78 47 (e_un n_78_47) := u_retAT (s_aret (.inl ⟨_, rfl⟩) hq_78 hr_78 (by decide +kernel) : e_Sn 78 47 (o_ret e_okR))
noncomputable def n_78_44 : e_Y := u_old (o_cast 13 47) n_78_47
theorem t_78_44 : e_Sn 78 44 (e_un n_78_44) := u_oldT (s_cast (index := 133) hq_78 ho_78 (List.mem_of_getElem? (i := 2230) (by decide +kernel)) (.inl ⟨by decide, rfl⟩) (by decide +kernel) rfl : e_Sn 78 44 (o_cast 13 47)) t_78_47 (e_cg_cast 13)
noncomputable def n_78_41 : e_Y := u_callV 19 111 4 23 2 n_111_0 n_78_44
theorem t_78_41 : e_Sn 78 41 (e_un n_78_41) := u_callVT rfl (s_callV (ci := 19) (C := er_19) (T := et_19) (N := 3) (index := 95) hq_78 ho_78 hy_111 hp_111 hc_111 hi_111 hd_111 (List.mem_of_getElem? (i := 2253) (by decide +kernel)) hs_111 (List.mem_of_getElem? (i := 2019) (by decide +kernel)) rfl (by decide +kernel) rfl : e_Sn 78 41 (o_callV (e_s1 19 111 4) 2 44)) t_111_0 t_78_44
noncomputable def n_78_40 : e_Y := u_bin a_isub (u_old (o_isub 41) n_78_41) n_78_41
theorem t_78_40 : e_Sn 78 40 (e_un n_78_40) := u_isubT (s_isub hq_78 (by decide +kernel) rfl : e_Sn 78 40 (o_isub 41)) t_78_41
noncomputable def n_78_39 : e_Y := u_push (.inl 2147483649) n_78_40
theorem t_78_39 : e_Sn 78 39 (e_un n_78_39) := u_pushT (s_iconst (n := (1)) hq_78 (by decide +kernel) rfl ⟨by decide +kernel, by decide +kernel⟩ : e_Sn 78 39 (o_push (.inl 2147483649) 40)) t_78_40
noncomputable def n_78_36 : e_Y := u_callV 19 113 1 20 1 n_113_0 n_78_39
theorem t_78_36 : e_Sn 78 36 (e_un n_78_36) := u_callVT rfl (s_callV (ci := 19) (C := er_19) (T := et_19) (N := 3) (index := 38) hq_78 ho_78 hy_113 hp_113 hc_113 hi_113 hd_113 (List.mem_of_getElem? (i := 2181) (by decide +kernel)) hs_113 (List.mem_of_getElem? (i := 2002) (by decide +kernel)) rfl (by decide +kernel) rfl : e_Sn 78 36 (o_callV (e_s1 19 113 1) 1 39)) t_113_0 t_78_39
noncomputable def n_78_33 : e_Y := u_getf 14 0 (u_old (o_getf (e_f1 14 0) 36) n_78_36) n_78_36
theorem t_78_33 : e_Sn 78 33 (e_un n_78_33) := u_getfT (s_getf (C := er_14) (T := et_14) (N := 13) (ref := "PlateroomprinterModel$Machine") (index := 122) (ci := 14) (k := 0) hq_78 ho_78 ⟨rfl, by decide, ei_14, (List.mem_of_getElem? (i := 1891) (by decide +kernel)), .inl rfl⟩ (by decide +kernel) rfl : e_Sn 78 33 (o_getf (e_f1 14 0) 36)) t_78_36
noncomputable def n_78_30 : e_Y := u_getf 16 0 (u_old (o_getf (e_f1 16 0) 33) n_78_33) n_78_33
theorem t_78_30 : e_Sn 78 30 (e_un n_78_30) := u_getfT (s_getf (C := er_16) (T := et_16) (N := 5) (ref := "PlateroomprinterModel$Run") (index := 25) (ci := 16) (k := 0) hq_78 ho_78 ⟨rfl, by decide, ei_16, (List.mem_of_getElem? (i := 2150) (by decide +kernel)), .inl rfl⟩ (by decide +kernel) rfl : e_Sn 78 30 (o_getf (e_f1 16 0) 33)) t_78_33
noncomputable def n_78_29 : e_Y := u_ld f_okA f_l0 n_78_30
theorem t_78_29 : e_Sn 78 29 (e_un n_78_29) := u_ldAT f_l0_eq (s_aload (i := .aload_n 0) (len := 1) hq_78 (by decide +kernel) rfl (.inr ⟨0, rfl, rfl, rfl⟩) : e_Sn 78 29 (o_load e_okR 0 30)) t_78_30
noncomputable def n_78_26 : e_Y := u_getf 14 0 (u_old (o_getf (e_f1 14 0) 29) n_78_29) n_78_29
theorem t_78_26 : e_Sn 78 26 (e_un n_78_26) := u_getfT (s_getf (C := er_14) (T := et_14) (N := 13) (ref := "PlateroomprinterModel$Machine") (index := 122) (ci := 14) (k := 0) hq_78 ho_78 ⟨rfl, by decide, ei_14, (List.mem_of_getElem? (i := 1891) (by decide +kernel)), .inl rfl⟩ (by decide +kernel) rfl : e_Sn 78 26 (o_getf (e_f1 14 0) 29)) t_78_29
noncomputable def n_78_23 : e_Y := u_getf 16 0 (u_old (o_getf (e_f1 16 0) 26) n_78_26) n_78_26
theorem t_78_23 : e_Sn 78 23 (e_un n_78_23) := u_getfT (s_getf (C := er_16) (T := et_16) (N := 5) (ref := "PlateroomprinterModel$Run") (index := 25) (ci := 16) (k := 0) hq_78 ho_78 ⟨rfl, by decide, ei_16, (List.mem_of_getElem? (i := 2150) (by decide +kernel)), .inl rfl⟩ (by decide +kernel) rfl : e_Sn 78 23 (o_getf (e_f1 16 0) 26)) t_78_26
noncomputable def n_78_22 : e_Y := u_ld f_okA f_l0 n_78_23
theorem t_78_22 : e_Sn 78 22 (e_un n_78_22) := u_ldAT f_l0_eq (s_aload (i := .aload_n 0) (len := 1) hq_78 (by decide +kernel) rfl (.inr ⟨0, rfl, rfl, rfl⟩) : e_Sn 78 22 (o_load e_okR 0 23)) t_78_23
noncomputable def n_78_19 : e_Y := u_callS 66 2 21 2 n_66_0 n_78_22
theorem t_78_19 : e_Sn 78 19 (e_un n_78_19) := u_callST rfl (s_callSN (host := "PlateroomprinterModel") (index := 73) hq_78 ho_78 hy_66 hp_66 hc_66 hi_66 hd_66 (List.mem_of_getElem? (i := 2203) (by decide +kernel)) hs_66 (by decide +kernel) rfl : e_Sn 78 19 (o_callS 66 2 2 22)) t_66_0 t_78_22
noncomputable def n_78_18 : e_Y := u_push (.inl 2147483649) n_78_19
theorem t_78_18 : e_Sn 78 18 (e_un n_78_18) := u_pushT (s_iconst (n := (1)) hq_78 (by decide +kernel) rfl ⟨by decide +kernel, by decide +kernel⟩ : e_Sn 78 18 (o_push (.inl 2147483649) 19)) t_78_19
noncomputable def n_78_14 : e_Y := n_78_18
theorem t_78_14 : e_Sn 78 14 (e_un n_78_14) := u_gotoT (s_goto (off := (4)) hq_78 (by decide +kernel) rfl : e_Sn 78 14 (o_goto 18)) t_78_18
noncomputable def n_78_13 : e_Y := u_push (.inl 2147483649) n_78_14
theorem t_78_13 : e_Sn 78 13 (e_un n_78_13) := u_pushT (s_iconst (n := (1)) hq_78 (by decide +kernel) rfl ⟨by decide +kernel, by decide +kernel⟩ : e_Sn 78 13 (o_push (.inl 2147483649) 14)) t_78_14
noncomputable def n_78_10 : e_Y := u_if y_ne0 (u_old2 (o_ifeq 13 17) 13 n_78_13 (u_at 17)) n_78_13 (u_at 17)
theorem t_78_10 : e_Sn 78 10 (e_un n_78_10) := u_ifeqT rfl (s_ifne (off := (7)) hq_78 (by decide +kernel) rfl rfl : e_Sn 78 10 (o_ifeq 13 17)) t_78_13 u_atT
noncomputable def n_78_7 : e_Y := u_callV 19 110 1 20 1 n_110_0 n_78_10
theorem t_78_7 : e_Sn 78 7 (e_un n_78_7) := u_callVT rfl (s_callV (ci := 19) (C := er_19) (T := et_19) (N := 3) (index := 81) hq_78 ho_78 hy_110 hp_110 hc_110 hi_110 hd_110 (List.mem_of_getElem? (i := 2176) (by decide +kernel)) hs_110 (List.mem_of_getElem? (i := 2015) (by decide +kernel)) rfl (by decide +kernel) rfl : e_Sn 78 7 (o_callV (e_s1 19 110 1) 1 10)) t_110_0 t_78_10
noncomputable def n_78_4 : e_Y := u_getf 14 0 (u_old (o_getf (e_f1 14 0) 7) n_78_7) n_78_7
theorem t_78_4 : e_Sn 78 4 (e_un n_78_4) := u_getfT (s_getf (C := er_14) (T := et_14) (N := 13) (ref := "PlateroomprinterModel$Machine") (index := 122) (ci := 14) (k := 0) hq_78 ho_78 ⟨rfl, by decide, ei_14, (List.mem_of_getElem? (i := 1891) (by decide +kernel)), .inl rfl⟩ (by decide +kernel) rfl : e_Sn 78 4 (o_getf (e_f1 14 0) 7)) t_78_7
noncomputable def n_78_1 : e_Y := u_getf 16 0 (u_old (o_getf (e_f1 16 0) 4) n_78_4) n_78_4
theorem t_78_1 : e_Sn 78 1 (e_un n_78_1) := u_getfT (s_getf (C := er_16) (T := et_16) (N := 5) (ref := "PlateroomprinterModel$Run") (index := 25) (ci := 16) (k := 0) hq_78 ho_78 ⟨rfl, by decide, ei_16, (List.mem_of_getElem? (i := 2150) (by decide +kernel)), .inl rfl⟩ (by decide +kernel) rfl : e_Sn 78 1 (o_getf (e_f1 16 0) 4)) t_78_4
noncomputable def n_78_0 : e_Y := u_ld f_okA f_l0 n_78_1
theorem t_78_0 : e_Sn 78 0 (e_un n_78_0) := u_ldAT f_l0_eq (s_aload (i := .aload_n 0) (len := 1) hq_78 (by decide +kernel) rfl (.inr ⟨0, rfl, rfl, rfl⟩) : e_Sn 78 0 (o_load e_okR 0 1)) t_78_1
noncomputable def e_tb_78 : e_X := (e_lf 0 (e_un n_78_0))
theorem e_tk_78 : e_Tb 78 e_tb_78 := (e_lfT t_78_0)
theorem hq_93 : (e_ml[93]?).map (·.2.1) = some prog_20_method_11_code := rfl
theorem ho_93 : (e_ml[93]?).map (·.1.cls) = some "PlateroomprinterModel$Run" := rfl
theorem hr_93 : (e_ml[93]?).map (·.2.2.2) = some (some (.object "PlateroomprinterModel$Item")) := rfl
noncomputable def n_93_23 : e_Y := u_retA
theorem t_93_23 : e_Sn 93 23 (e_un n_93_23) := u_retAT (s_aret (.inl ⟨_, rfl⟩) hq_93 hr_93 (by decide +kernel) : e_Sn 93 23 (o_ret e_okR))
noncomputable def n_93_22 : e_Y := u_ld f_okA f_l2 n_93_23
theorem t_93_22 : e_Sn 93 22 (e_un n_93_22) := u_ldAT f_l2_eq (s_aload (i := .aload_n 2) (len := 1) hq_93 (by decide +kernel) rfl (.inr ⟨2, rfl, rfl, rfl⟩) : e_Sn 93 22 (o_load e_okR 2 23)) t_93_23
noncomputable def n_93_19 : e_Y := u_callS 66 2 21 2 n_66_0 n_93_22
theorem t_93_19 : e_Sn 93 19 (e_un n_93_19) := u_callST rfl (s_callSN (host := "PlateroomprinterModel") (index := 73) hq_93 ho_93 hy_66 hp_66 hc_66 hi_66 hd_66 (List.mem_of_getElem? (i := 2203) (by decide +kernel)) hs_66 (by decide +kernel) rfl : e_Sn 93 19 (o_callS 66 2 2 22)) t_66_0 t_93_22
noncomputable def n_93_18 : e_Y := u_push (.inl 2147483650) n_93_19
theorem t_93_18 : e_Sn 93 18 (e_un n_93_18) := u_pushT (s_iconst (n := (2)) hq_93 (by decide +kernel) rfl ⟨by decide +kernel, by decide +kernel⟩ : e_Sn 93 18 (o_push (.inl 2147483650) 19)) t_93_19
noncomputable def n_93_14 : e_Y := n_93_18
theorem t_93_14 : e_Sn 93 14 (e_un n_93_14) := u_gotoT (s_goto (off := (4)) hq_93 (by decide +kernel) rfl : e_Sn 93 14 (o_goto 18)) t_93_18
noncomputable def n_93_13 : e_Y := u_push (.inl 2147483649) n_93_14
theorem t_93_13 : e_Sn 93 13 (e_un n_93_13) := u_pushT (s_iconst (n := (1)) hq_93 (by decide +kernel) rfl ⟨by decide +kernel, by decide +kernel⟩ : e_Sn 93 13 (o_push (.inl 2147483649) 14)) t_93_14
noncomputable def n_93_10 : e_Y := u_jmp y_ne (u_old2 (o_ceq 13 17) 13 n_93_13 (u_at 17)) n_93_13 (u_at 17)
theorem t_93_10 : e_Sn 93 10 (e_un n_93_10) := u_ceqT rfl (s_cne (off := (7)) hq_93 (by decide +kernel) rfl rfl : e_Sn 93 10 (o_ceq 13 17)) t_93_13 u_atT
noncomputable def n_93_9 : e_Y := u_ld f_okI f_l1 n_93_10
theorem t_93_9 : e_Sn 93 9 (e_un n_93_9) := u_ldIT f_l1_eq (s_iload (i := .iload_n 1) (len := 1) hq_93 (by decide +kernel) rfl (.inr ⟨1, rfl, rfl, rfl⟩) : e_Sn 93 9 (o_load e_okI 1 10)) t_93_10
noncomputable def n_93_6 : e_Y := u_getf 13 0 (u_old (o_getf (e_f1 13 0) 9) n_93_9) n_93_9
theorem t_93_6 : e_Sn 93 6 (e_un n_93_6) := u_getfT (s_getf (C := er_13) (T := et_13) (N := 3) (ref := "PlateroomprinterModel$Item") (index := 146) (ci := 13) (k := 0) hq_93 ho_93 ⟨rfl, by decide, ei_13, (List.mem_of_getElem? (i := 2237) (by decide +kernel)), .inl rfl⟩ (by decide +kernel) rfl : e_Sn 93 6 (o_getf (e_f1 13 0) 9)) t_93_9
noncomputable def n_93_5 : e_Y := u_ld f_okA f_l2 n_93_6
theorem t_93_5 : e_Sn 93 5 (e_un n_93_5) := u_ldAT f_l2_eq (s_aload (i := .aload_n 2) (len := 1) hq_93 (by decide +kernel) rfl (.inr ⟨2, rfl, rfl, rfl⟩) : e_Sn 93 5 (o_load e_okR 2 6)) t_93_6
noncomputable def n_93_4 : e_Y := u_st f_okA f_s2 n_93_5
theorem t_93_4 : e_Sn 93 4 (e_un n_93_4) := u_stAT (fun _ _ _ => f_s2_eq) (s_astore (i := .astore_n 2) (len := 1) hq_93 (by decide +kernel) rfl (.inr ⟨2, rfl, rfl, rfl⟩) : e_Sn 93 4 (o_store e_okR 2 5)) t_93_5
noncomputable def n_93_1 : e_Y := u_callV 16 78 1 20 1 n_78_0 n_93_4
theorem t_93_1 : e_Sn 93 1 (e_un n_93_1) := u_callVT rfl (s_callV (ci := 16) (C := er_16) (T := et_16) (N := 5) (index := 142) hq_93 ho_93 hy_78 hp_78 hc_78 hi_78 hd_78 (List.mem_of_getElem? (i := 2275) (by decide +kernel)) hs_78 (List.mem_of_getElem? (i := 87) (by decide +kernel)) rfl (by decide +kernel) rfl : e_Sn 93 1 (o_callV (e_s1 16 78 1) 1 4)) t_78_0 t_93_4
noncomputable def n_93_0 : e_Y := u_ld f_okA f_l0 n_93_1
theorem t_93_0 : e_Sn 93 0 (e_un n_93_0) := u_ldAT f_l0_eq (s_aload (i := .aload_n 0) (len := 1) hq_93 (by decide +kernel) rfl (.inr ⟨0, rfl, rfl, rfl⟩) : e_Sn 93 0 (o_load e_okR 0 1)) t_93_1
noncomputable def e_tb_93 : e_X := (e_lf 0 (e_un n_93_0))
theorem e_tk_93 : e_Tb 93 e_tb_93 := (e_lfT t_93_0)
theorem hq_85 : (e_ml[85]?).map (·.2.1) = some prog_20_method_12_code := rfl
theorem ho_85 : (e_ml[85]?).map (·.1.cls) = some "PlateroomprinterModel$Run" := rfl
theorem hr_85 : (e_ml[85]?).map (·.2.2.2) = some (some (.array .long)) := rfl
noncomputable def n_85_31 : e_Y := u_retA
theorem t_85_31 : e_Sn 85 31 (e_un n_85_31) := u_retAT (s_aret (.inr ⟨_, rfl⟩) hq_85 hr_85 (by decide +kernel) : e_Sn 85 31 (o_ret e_okR))
noncomputable def n_85_30 : e_Y := u_ld f_okA f_l2 n_85_31
theorem t_85_30 : e_Sn 85 30 (e_un n_85_30) := u_ldAT f_l2_eq (s_aload (i := .aload_n 2) (len := 1) hq_85 (by decide +kernel) rfl (.inr ⟨2, rfl, rfl, rfl⟩) : e_Sn 85 30 (o_load e_okR 2 31)) t_85_31
noncomputable def n_85_27 : e_Y := (u_at 8)
theorem t_85_27 : e_Sn 85 27 (e_un n_85_27) := u_gotoT (s_goto (off := (-19)) hq_85 (by decide +kernel) rfl : e_Sn 85 27 (o_goto 8)) u_atT
noncomputable def n_85_24 : e_Y := u_inc f_l3 f_s3 4294967295 n_85_27
theorem t_85_24 : e_Sn 85 24 (e_un n_85_24) := u_incT f_l3_eq (fun _ _ _ => f_s3_eq) (s_iinc (zz := (-1)) hq_85 (by decide +kernel) rfl (by decide +kernel) ⟨by decide, by decide⟩ : e_Sn 85 24 (o_iinc 3 4294967295 27)) t_85_27
noncomputable def n_85_23 : e_Y := u_old (o_ast 2 e_okL 24) n_85_24
theorem t_85_23 : e_Sn 85 23 (e_un n_85_23) := u_oldT (s_last hq_85 (by decide +kernel) rfl : e_Sn 85 23 (o_ast 2 e_okL 24)) t_85_24 (e_cg_ast 2 e_okL)
noncomputable def n_85_22 : e_Y := u_old (o_i2l 23) n_85_23
theorem t_85_22 : e_Sn 85 22 (e_un n_85_22) := u_oldT (s_i2l hq_85 (by decide +kernel) rfl : e_Sn 85 22 (o_i2l 23)) t_85_23 e_congr_i2l
noncomputable def n_85_19 : e_Y := u_getf 13 1 (u_old (o_getf (e_f1 13 1) 22) n_85_22) n_85_22
theorem t_85_19 : e_Sn 85 19 (e_un n_85_19) := u_getfT (s_getf (C := er_13) (T := et_13) (N := 3) (ref := "PlateroomprinterModel$Item") (index := 153) (ci := 13) (k := 1) hq_85 ho_85 ⟨rfl, by decide, ei_13, (List.mem_of_getElem? (i := 2239) (by decide +kernel)), .inl rfl⟩ (by decide +kernel) rfl : e_Sn 85 19 (o_getf (e_f1 13 1) 22)) t_85_22
noncomputable def n_85_16 : e_Y := u_callV 16 93 3 22 2 n_93_0 n_85_19
theorem t_85_16 : e_Sn 85 16 (e_un n_85_16) := u_callVT rfl (s_callV (ci := 16) (C := er_16) (T := et_16) (N := 5) (index := 149) hq_85 ho_85 hy_93 hp_93 hc_93 hi_93 hd_93 (List.mem_of_getElem? (i := 2271) (by decide +kernel)) hs_93 (List.mem_of_getElem? (i := 86) (by decide +kernel)) rfl (by decide +kernel) rfl : e_Sn 85 16 (o_callV (e_s1 16 93 3) 2 19)) t_93_0 t_85_19
noncomputable def n_85_15 : e_Y := u_push (.inl 2147483648) n_85_16
theorem t_85_15 : e_Sn 85 15 (e_un n_85_15) := u_pushT (s_iconst (n := (0)) hq_85 (by decide +kernel) rfl ⟨by decide +kernel, by decide +kernel⟩ : e_Sn 85 15 (o_push (.inl 2147483648) 16)) t_85_16
noncomputable def n_85_14 : e_Y := u_ld f_okA f_l0 n_85_15
theorem t_85_14 : e_Sn 85 14 (e_un n_85_14) := u_ldAT f_l0_eq (s_aload (i := .aload_n 0) (len := 1) hq_85 (by decide +kernel) rfl (.inr ⟨0, rfl, rfl, rfl⟩) : e_Sn 85 14 (o_load e_okR 0 15)) t_85_15
noncomputable def n_85_13 : e_Y := u_ld f_okI f_l3 n_85_14
theorem t_85_13 : e_Sn 85 13 (e_un n_85_13) := u_ldIT f_l3_eq (s_iload (i := .iload_n 3) (len := 1) hq_85 (by decide +kernel) rfl (.inr ⟨3, rfl, rfl, rfl⟩) : e_Sn 85 13 (o_load e_okI 3 14)) t_85_14
noncomputable def n_85_12 : e_Y := u_ld f_okA f_l2 n_85_13
theorem t_85_12 : e_Sn 85 12 (e_un n_85_12) := u_ldAT f_l2_eq (s_aload (i := .aload_n 2) (len := 1) hq_85 (by decide +kernel) rfl (.inr ⟨2, rfl, rfl, rfl⟩) : e_Sn 85 12 (o_load e_okR 2 13)) t_85_13
noncomputable def n_85_9 : e_Y := u_if y_ge0 (u_old2 (o_iflt 30 12) 30 n_85_30 n_85_12) n_85_30 n_85_12
theorem t_85_9 : e_Sn 85 9 (e_un n_85_9) := u_ifltT rfl (s_iflt (off := (21)) hq_85 (by decide +kernel) rfl rfl : e_Sn 85 9 (o_iflt 30 12)) t_85_30 t_85_12
noncomputable def n_85_8 : e_Y := u_ld f_okI f_l3 n_85_9
theorem t_85_8 : e_Sn 85 8 (e_un n_85_8) := u_ldIT f_l3_eq (s_iload (i := .iload_n 3) (len := 1) hq_85 (by decide +kernel) rfl (.inr ⟨3, rfl, rfl, rfl⟩) : e_Sn 85 8 (o_load e_okI 3 9)) t_85_9
noncomputable def n_85_7 : e_Y := u_st f_okI f_s3 n_85_8
theorem t_85_7 : e_Sn 85 7 (e_un n_85_7) := u_stIT (fun _ _ _ => f_s3_eq) (s_istore (i := .istore_n 3) (len := 1) hq_85 (by decide +kernel) rfl (.inr ⟨3, rfl, rfl, rfl⟩) : e_Sn 85 7 (o_store e_okI 3 8)) t_85_8
noncomputable def n_85_6 : e_Y := u_bin a_isub (u_old (o_isub 7) n_85_7) n_85_7
theorem t_85_6 : e_Sn 85 6 (e_un n_85_6) := u_isubT (s_isub hq_85 (by decide +kernel) rfl : e_Sn 85 6 (o_isub 7)) t_85_7
noncomputable def n_85_5 : e_Y := u_push (.inl 2147483649) n_85_6
theorem t_85_5 : e_Sn 85 5 (e_un n_85_5) := u_pushT (s_iconst (n := (1)) hq_85 (by decide +kernel) rfl ⟨by decide +kernel, by decide +kernel⟩ : e_Sn 85 5 (o_push (.inl 2147483649) 6)) t_85_6
noncomputable def n_85_4 : e_Y := u_ld f_okI f_l1 n_85_5
theorem t_85_4 : e_Sn 85 4 (e_un n_85_4) := u_ldIT f_l1_eq (s_iload (i := .iload_n 1) (len := 1) hq_85 (by decide +kernel) rfl (.inr ⟨1, rfl, rfl, rfl⟩) : e_Sn 85 4 (o_load e_okI 1 5)) t_85_5
noncomputable def n_85_3 : e_Y := u_st f_okA f_s2 n_85_4
theorem t_85_3 : e_Sn 85 3 (e_un n_85_3) := u_stAT (fun _ _ _ => f_s2_eq) (s_astore (i := .astore_n 2) (len := 1) hq_85 (by decide +kernel) rfl (.inr ⟨2, rfl, rfl, rfl⟩) : e_Sn 85 3 (o_store e_okR 2 4)) t_85_4
noncomputable def n_85_1 : e_Y := u_tab (o_newa 2 (e_L 9223372036854775808) 3)
theorem t_85_1 : e_Sn 85 1 (e_un n_85_1) := u_tabT (s_newJ (List.mem_of_getElem? (i := 279) (by decide +kernel)) hq_85 (by decide +kernel) rfl : e_Sn 85 1 (o_newa 2 (e_L 9223372036854775808) 3))
noncomputable def n_85_0 : e_Y := u_ld f_okI f_l1 n_85_1
theorem t_85_0 : e_Sn 85 0 (e_un n_85_0) := u_ldIT f_l1_eq (s_iload (i := .iload_n 1) (len := 1) hq_85 (by decide +kernel) rfl (.inr ⟨1, rfl, rfl, rfl⟩) : e_Sn 85 0 (o_load e_okI 1 1)) t_85_1
noncomputable def e_tb_85 : e_X := (e_br 3 (e_lf 0 (e_un n_85_0)) (e_br 8 (e_lf 3 (e_un n_85_3)) (e_lf 8 (e_un n_85_8))))
theorem e_tk_85 : e_Tb 85 e_tb_85 := (e_brT (e_lfT t_85_0) (e_brT (e_lfT t_85_3) (e_lfT t_85_8)))
theorem hq_84 : (e_ml[84]?).map (·.2.1) = some prog_20_method_13_code := rfl
theorem ho_84 : (e_ml[84]?).map (·.1.cls) = some "PlateroomprinterModel$Run" := rfl
theorem hr_84 : (e_ml[84]?).map (·.2.2.2) = some (some .int) := rfl
noncomputable def n_84_23 : e_Y := u_retI
theorem t_84_23 : e_Sn 84 23 (e_un n_84_23) := u_retIT (s_iret hq_84 hr_84 (by decide +kernel) : e_Sn 84 23 (o_ret e_okI))
noncomputable def n_84_22 : e_Y := u_ld f_okI f_l3 n_84_23
theorem t_84_22 : e_Sn 84 22 (e_un n_84_22) := u_ldIT f_l3_eq (s_iload (i := .iload_n 3) (len := 1) hq_84 (by decide +kernel) rfl (.inr ⟨3, rfl, rfl, rfl⟩) : e_Sn 84 22 (o_load e_okI 3 23)) t_84_23
noncomputable def n_84_19 : e_Y := u_callS 66 2 21 2 n_66_0 n_84_22
theorem t_84_19 : e_Sn 84 19 (e_un n_84_19) := u_callST rfl (s_callSN (host := "PlateroomprinterModel") (index := 73) hq_84 ho_84 hy_66 hp_66 hc_66 hi_66 hd_66 (List.mem_of_getElem? (i := 2203) (by decide +kernel)) hs_66 (by decide +kernel) rfl : e_Sn 84 19 (o_callS 66 2 2 22)) t_66_0 t_84_22
noncomputable def n_84_18 : e_Y := u_push (.inl 2147483651) n_84_19
theorem t_84_18 : e_Sn 84 18 (e_un n_84_18) := u_pushT (s_iconst (n := (3)) hq_84 (by decide +kernel) rfl ⟨by decide +kernel, by decide +kernel⟩ : e_Sn 84 18 (o_push (.inl 2147483651) 19)) t_84_19
noncomputable def n_84_15 : e_Y := u_callS 64 6 25 3 n_64_0 n_84_18
theorem t_84_15 : e_Sn 84 15 (e_un n_84_15) := u_callST rfl (s_callSN (host := "PlateroomprinterModel") (index := 129) hq_84 ho_84 hy_64 hp_64 hc_64 hi_64 hd_64 (List.mem_of_getElem? (i := 2202) (by decide +kernel)) hs_64 (by decide +kernel) rfl : e_Sn 84 15 (o_callS 64 6 3 18)) t_64_0 t_84_18
noncomputable def n_84_14 : e_Y := u_old (o_i2l 15) n_84_15
theorem t_84_14 : e_Sn 84 14 (e_un n_84_14) := u_oldT (s_i2l hq_84 (by decide +kernel) rfl : e_Sn 84 14 (o_i2l 15)) t_84_15 e_congr_i2l
noncomputable def n_84_13 : e_Y := u_ld f_okI f_l2 n_84_14
theorem t_84_13 : e_Sn 84 13 (e_un n_84_13) := u_ldIT f_l2_eq (s_iload (i := .iload_n 2) (len := 1) hq_84 (by decide +kernel) rfl (.inr ⟨2, rfl, rfl, rfl⟩) : e_Sn 84 13 (o_load e_okI 2 14)) t_84_14
noncomputable def n_84_12 : e_Y := u_old (o_i2l 13) n_84_13
theorem t_84_12 : e_Sn 84 12 (e_un n_84_12) := u_oldT (s_i2l hq_84 (by decide +kernel) rfl : e_Sn 84 12 (o_i2l 13)) t_84_13 e_congr_i2l
noncomputable def n_84_11 : e_Y := u_ld f_okI f_l1 n_84_12
theorem t_84_11 : e_Sn 84 11 (e_un n_84_11) := u_ldIT f_l1_eq (s_iload (i := .iload_n 1) (len := 1) hq_84 (by decide +kernel) rfl (.inr ⟨1, rfl, rfl, rfl⟩) : e_Sn 84 11 (o_load e_okI 1 12)) t_84_12
noncomputable def n_84_10 : e_Y := u_old (o_i2l 11) n_84_11
theorem t_84_10 : e_Sn 84 10 (e_un n_84_10) := u_oldT (s_i2l hq_84 (by decide +kernel) rfl : e_Sn 84 10 (o_i2l 11)) t_84_11 e_congr_i2l
noncomputable def n_84_9 : e_Y := u_ld f_okI f_l3 n_84_10
theorem t_84_9 : e_Sn 84 9 (e_un n_84_9) := u_ldIT f_l3_eq (s_iload (i := .iload_n 3) (len := 1) hq_84 (by decide +kernel) rfl (.inr ⟨3, rfl, rfl, rfl⟩) : e_Sn 84 9 (o_load e_okI 3 10)) t_84_10
noncomputable def n_84_8 : e_Y := u_st f_okI f_s3 n_84_9
theorem t_84_8 : e_Sn 84 8 (e_un n_84_8) := u_stIT (fun _ _ _ => f_s3_eq) (s_istore (i := .istore_n 3) (len := 1) hq_84 (by decide +kernel) rfl (.inr ⟨3, rfl, rfl, rfl⟩) : e_Sn 84 8 (o_store e_okI 3 9)) t_84_9
noncomputable def n_84_7 : e_Y := u_old (o_l2i 8) n_84_8
theorem t_84_7 : e_Sn 84 7 (e_un n_84_7) := u_oldT (s_l2i hq_84 (by decide +kernel) rfl : e_Sn 84 7 (o_l2i 8)) t_84_8 e_cg_l2i
noncomputable def n_84_6 : e_Y := u_ald 2 (u_old (o_aldO 2 7) n_84_7) n_84_7
theorem t_84_6 : e_Sn 84 6 (e_un n_84_6) := u_aldOT (s_lald hq_84 (by decide +kernel) rfl : e_Sn 84 6 (o_aldO 2 7)) t_84_7
noncomputable def n_84_5 : e_Y := u_push (.inl 2147483648) n_84_6
theorem t_84_5 : e_Sn 84 5 (e_un n_84_5) := u_pushT (s_iconst (n := (0)) hq_84 (by decide +kernel) rfl ⟨by decide +kernel, by decide +kernel⟩ : e_Sn 84 5 (o_push (.inl 2147483648) 6)) t_84_6
noncomputable def n_84_2 : e_Y := u_callV 16 85 4 23 2 n_85_0 n_84_5
theorem t_84_2 : e_Sn 84 2 (e_un n_84_2) := u_callVT rfl (s_callV (ci := 16) (C := er_16) (T := et_16) (N := 5) (index := 155) hq_84 ho_84 hy_85 hp_85 hc_85 hi_85 hd_85 (List.mem_of_getElem? (i := 2267) (by decide +kernel)) hs_85 (List.mem_of_getElem? (i := 85) (by decide +kernel)) rfl (by decide +kernel) rfl : e_Sn 84 2 (o_callV (e_s1 16 85 4) 2 5)) t_85_0 t_84_5
noncomputable def n_84_1 : e_Y := u_push (.inl 2147483649) n_84_2
theorem t_84_1 : e_Sn 84 1 (e_un n_84_1) := u_pushT (s_iconst (n := (1)) hq_84 (by decide +kernel) rfl ⟨by decide +kernel, by decide +kernel⟩ : e_Sn 84 1 (o_push (.inl 2147483649) 2)) t_84_2
noncomputable def n_84_0 : e_Y := u_ld f_okA f_l0 n_84_1
theorem t_84_0 : e_Sn 84 0 (e_un n_84_0) := u_ldAT f_l0_eq (s_aload (i := .aload_n 0) (len := 1) hq_84 (by decide +kernel) rfl (.inr ⟨0, rfl, rfl, rfl⟩) : e_Sn 84 0 (o_load e_okR 0 1)) t_84_1
noncomputable def e_tb_84 : e_X := (e_lf 0 (e_un n_84_0))
theorem e_tk_84 : e_Tb 84 e_tb_84 := (e_lfT t_84_0)
end SN
