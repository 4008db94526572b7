/-! TABLES, by program -/
section SN
theorem hq_88 : (e_ml[88]?).map (·.2.1) = some prog_9_method_2_code := rfl
theorem ho_88 : (e_ml[88]?).map (·.1.cls) = some "Plateroomprinter$Raster" := rfl
theorem hr_88 : (e_ml[88]?).map (·.2.2.2) = some none := rfl
noncomputable def n_88_132 : e_Y := u_tab (o_retv)
theorem t_88_132 : e_Sn 88 132 (e_un n_88_132) := u_tabT (s_vret hq_88 hr_88 (by decide +kernel) : e_Sn 88 132 (o_retv))
noncomputable def n_88_129 : e_Y := (u_at 50)
theorem t_88_129 : e_Sn 88 129 (e_un n_88_129) := u_gotoT (s_goto (off := (-79)) hq_88 (by decide +kernel) rfl : e_Sn 88 129 (o_goto 50)) u_atT
noncomputable def n_88_126 : e_Y := u_inc f_l9 f_s9 1 n_88_129
theorem t_88_126 : e_Sn 88 126 (e_un n_88_126) := u_incT f_l9_eq (fun _ _ _ => f_s9_eq) (s_iinc (zz := (1)) hq_88 (by decide +kernel) rfl (by decide +kernel) ⟨by decide, by decide⟩ : e_Sn 88 126 (o_iinc 9 1 129)) t_88_129
noncomputable def n_88_124 : e_Y := u_st f_okI f_s8 n_88_126
theorem t_88_124 : e_Sn 88 124 (e_un n_88_124) := u_stIT (fun _ _ _ => f_s8_eq) (s_istore (i := .istore 8) (len := 2) hq_88 (by decide +kernel) rfl (.inl ⟨rfl, rfl⟩) : e_Sn 88 124 (o_store e_okI 8 126)) t_88_126
noncomputable def n_88_122 : e_Y := u_ld f_okI f_l11 n_88_124
theorem t_88_122 : e_Sn 88 122 (e_un n_88_122) := u_ldIT f_l11_eq (s_iload (i := .iload 11) (len := 2) hq_88 (by decide +kernel) rfl (.inl ⟨rfl, rfl⟩) : e_Sn 88 122 (o_load e_okI 11 124)) t_88_124
noncomputable def n_88_120 : e_Y := u_st f_okI f_s7 n_88_122
theorem t_88_120 : e_Sn 88 120 (e_un n_88_120) := u_stIT (fun _ _ _ => f_s7_eq) (s_istore (i := .istore 7) (len := 2) hq_88 (by decide +kernel) rfl (.inl ⟨rfl, rfl⟩) : e_Sn 88 120 (o_store e_okI 7 122)) t_88_122
noncomputable def n_88_118 : e_Y := u_ld f_okI f_l10 n_88_120
theorem t_88_118 : e_Sn 88 118 (e_un n_88_118) := u_ldIT f_l10_eq (s_iload (i := .iload 10) (len := 2) hq_88 (by decide +kernel) rfl (.inl ⟨rfl, rfl⟩) : e_Sn 88 118 (o_load e_okI 10 120)) t_88_120
noncomputable def n_88_115 : e_Y := u_callV 8 86 17 36 6 n_86_0 n_88_118
theorem t_88_115 : e_Sn 88 115 (e_un n_88_115) := u_callVT rfl (s_callV (ci := 8) (C := er_8) (T := et_8) (N := 3) (index := 22) hq_88 ho_88 hy_86 hp_86 hc_86 hi_86 hd_86 (List.mem_of_getElem? (i := 1045) (by decide +kernel)) hs_86 (List.mem_of_getElem? (i := 29) (by decide +kernel)) rfl (by decide +kernel) rfl : e_Sn 88 115 (o_callV (e_s1 8 86 17) 6 118)) t_86_0 t_88_118
noncomputable def n_88_114 : e_Y := u_push (.inl 2147483647) n_88_115
theorem t_88_114 : e_Sn 88 114 (e_un n_88_114) := u_pushT (s_iconst (n := (-1)) hq_88 (by decide +kernel) rfl ⟨by decide +kernel, by decide +kernel⟩ : e_Sn 88 114 (o_push (.inl 2147483647) 115)) t_88_115
noncomputable def n_88_112 : e_Y := u_ld f_okI f_l8 n_88_114
theorem t_88_112 : e_Sn 88 112 (e_un n_88_112) := u_ldIT f_l8_eq (s_iload (i := .iload 8) (len := 2) hq_88 (by decide +kernel) rfl (.inl ⟨rfl, rfl⟩) : e_Sn 88 112 (o_load e_okI 8 114)) t_88_114
noncomputable def n_88_110 : e_Y := u_ld f_okI f_l7 n_88_112
theorem t_88_110 : e_Sn 88 110 (e_un n_88_110) := u_ldIT f_l7_eq (s_iload (i := .iload 7) (len := 2) hq_88 (by decide +kernel) rfl (.inl ⟨rfl, rfl⟩) : e_Sn 88 110 (o_load e_okI 7 112)) t_88_112
noncomputable def n_88_108 : e_Y := u_ld f_okI f_l11 n_88_110
theorem t_88_108 : e_Sn 88 108 (e_un n_88_108) := u_ldIT f_l11_eq (s_iload (i := .iload 11) (len := 2) hq_88 (by decide +kernel) rfl (.inl ⟨rfl, rfl⟩) : e_Sn 88 108 (o_load e_okI 11 110)) t_88_110
noncomputable def n_88_106 : e_Y := u_ld f_okI f_l10 n_88_108
theorem t_88_106 : e_Sn 88 106 (e_un n_88_106) := u_ldIT f_l10_eq (s_iload (i := .iload 10) (len := 2) hq_88 (by decide +kernel) rfl (.inl ⟨rfl, rfl⟩) : e_Sn 88 106 (o_load e_okI 10 108)) t_88_108
noncomputable def n_88_105 : e_Y := u_ld f_okA f_l0 n_88_106
theorem t_88_105 : e_Sn 88 105 (e_un n_88_105) := u_ldAT f_l0_eq (s_aload (i := .aload_n 0) (len := 1) hq_88 (by decide +kernel) rfl (.inr ⟨0, rfl, rfl, rfl⟩) : e_Sn 88 105 (o_load e_okR 0 106)) t_88_106
noncomputable def n_88_102 : e_Y := u_jmp y_ge (u_old2 (o_clt 105 118) 105 n_88_105 n_88_118) n_88_105 n_88_118
theorem t_88_102 : e_Sn 88 102 (e_un n_88_102) := u_cltT rfl (s_cge (off := (16)) hq_88 (by decide +kernel) rfl rfl : e_Sn 88 102 (o_clt 105 118)) t_88_105 t_88_118
noncomputable def n_88_100 : e_Y := u_ld f_okI f_l8 n_88_102
theorem t_88_100 : e_Sn 88 100 (e_un n_88_100) := u_ldIT f_l8_eq (s_iload (i := .iload 8) (len := 2) hq_88 (by decide +kernel) rfl (.inl ⟨rfl, rfl⟩) : e_Sn 88 100 (o_load e_okI 8 102)) t_88_102
noncomputable def n_88_98 : e_Y := u_ld f_okI f_l11 n_88_100
theorem t_88_98 : e_Sn 88 98 (e_un n_88_98) := u_ldIT f_l11_eq (s_iload (i := .iload 11) (len := 2) hq_88 (by decide +kernel) rfl (.inl ⟨rfl, rfl⟩) : e_Sn 88 98 (o_load e_okI 11 100)) t_88_100
noncomputable def n_88_95 : e_Y := n_88_118
theorem t_88_95 : e_Sn 88 95 (e_un n_88_95) := u_gotoT (s_goto (off := (23)) hq_88 (by decide +kernel) rfl : e_Sn 88 95 (o_goto 118)) t_88_118
noncomputable def n_88_92 : e_Y := u_callV 8 86 17 36 6 n_86_0 n_88_95
theorem t_88_92 : e_Sn 88 92 (e_un n_88_92) := u_callVT rfl (s_callV (ci := 8) (C := er_8) (T := et_8) (N := 3) (index := 22) hq_88 ho_88 hy_86 hp_86 hc_86 hi_86 hd_86 (List.mem_of_getElem? (i := 1045) (by decide +kernel)) hs_86 (List.mem_of_getElem? (i := 29) (by decide +kernel)) rfl (by decide +kernel) rfl : e_Sn 88 92 (o_callV (e_s1 8 86 17) 6 95)) t_86_0 t_88_95
noncomputable def n_88_91 : e_Y := u_push (.inl 2147483649) n_88_92
theorem t_88_91 : e_Sn 88 91 (e_un n_88_91) := u_pushT (s_iconst (n := (1)) hq_88 (by decide +kernel) rfl ⟨by decide +kernel, by decide +kernel⟩ : e_Sn 88 91 (o_push (.inl 2147483649) 92)) t_88_92
noncomputable def n_88_89 : e_Y := u_ld f_okI f_l11 n_88_91
theorem t_88_89 : e_Sn 88 89 (e_un n_88_89) := u_ldIT f_l11_eq (s_iload (i := .iload 11) (len := 2) hq_88 (by decide +kernel) rfl (.inl ⟨rfl, rfl⟩) : e_Sn 88 89 (o_load e_okI 11 91)) t_88_91
noncomputable def n_88_87 : e_Y := u_ld f_okI f_l10 n_88_89
theorem t_88_87 : e_Sn 88 87 (e_un n_88_87) := u_ldIT f_l10_eq (s_iload (i := .iload 10) (len := 2) hq_88 (by decide +kernel) rfl (.inl ⟨rfl, rfl⟩) : e_Sn 88 87 (o_load e_okI 10 89)) t_88_89
noncomputable def n_88_85 : e_Y := u_ld f_okI f_l8 n_88_87
theorem t_88_85 : e_Sn 88 85 (e_un n_88_85) := u_ldIT f_l8_eq (s_iload (i := .iload 8) (len := 2) hq_88 (by decide +kernel) rfl (.inl ⟨rfl, rfl⟩) : e_Sn 88 85 (o_load e_okI 8 87)) t_88_87
noncomputable def n_88_83 : e_Y := u_ld f_okI f_l7 n_88_85
theorem t_88_83 : e_Sn 88 83 (e_un n_88_83) := u_ldIT f_l7_eq (s_iload (i := .iload 7) (len := 2) hq_88 (by decide +kernel) rfl (.inl ⟨rfl, rfl⟩) : e_Sn 88 83 (o_load e_okI 7 85)) t_88_85
noncomputable def n_88_82 : e_Y := u_ld f_okA f_l0 n_88_83
theorem t_88_82 : e_Sn 88 82 (e_un n_88_82) := u_ldAT f_l0_eq (s_aload (i := .aload_n 0) (len := 1) hq_88 (by decide +kernel) rfl (.inr ⟨0, rfl, rfl, rfl⟩) : e_Sn 88 82 (o_load e_okR 0 83)) t_88_83
noncomputable def n_88_79 : e_Y := u_jmp y_ge (u_old2 (o_clt 82 98) 82 n_88_82 n_88_98) n_88_82 n_88_98
theorem t_88_79 : e_Sn 88 79 (e_un n_88_79) := u_cltT rfl (s_cge (off := (19)) hq_88 (by decide +kernel) rfl rfl : e_Sn 88 79 (o_clt 82 98)) t_88_82 t_88_98
noncomputable def n_88_77 : e_Y := u_ld f_okI f_l11 n_88_79
theorem t_88_77 : e_Sn 88 77 (e_un n_88_77) := u_ldIT f_l11_eq (s_iload (i := .iload 11) (len := 2) hq_88 (by decide +kernel) rfl (.inl ⟨rfl, rfl⟩) : e_Sn 88 77 (o_load e_okI 11 79)) t_88_79
noncomputable def n_88_75 : e_Y := u_ld f_okI f_l8 n_88_77
theorem t_88_75 : e_Sn 88 75 (e_un n_88_75) := u_ldIT f_l8_eq (s_iload (i := .iload 8) (len := 2) hq_88 (by decide +kernel) rfl (.inl ⟨rfl, rfl⟩) : e_Sn 88 75 (o_load e_okI 8 77)) t_88_77
noncomputable def n_88_73 : e_Y := u_st f_okI f_s11 n_88_75
theorem t_88_73 : e_Sn 88 73 (e_un n_88_73) := u_stIT (fun _ _ _ => f_s11_eq) (s_istore (i := .istore 11) (len := 2) hq_88 (by decide +kernel) rfl (.inl ⟨rfl, rfl⟩) : e_Sn 88 73 (o_store e_okI 11 75)) t_88_75
noncomputable def n_88_72 : e_Y := u_bin a_iadd (u_old (o_iadd 73) n_88_73) n_88_73
theorem t_88_72 : e_Sn 88 72 (e_un n_88_72) := u_iaddT (s_iadd hq_88 (by decide +kernel) rfl : e_Sn 88 72 (o_iadd 73)) t_88_73
noncomputable def n_88_70 : e_Y := u_ld f_okI f_l6 n_88_72
theorem t_88_70 : e_Sn 88 70 (e_un n_88_70) := u_ldIT f_l6_eq (s_iload (i := .iload 6) (len := 2) hq_88 (by decide +kernel) rfl (.inl ⟨rfl, rfl⟩) : e_Sn 88 70 (o_load e_okI 6 72)) t_88_72
noncomputable def n_88_69 : e_Y := u_ald 0 (u_old (o_ald e_fcs 70) n_88_70) n_88_70
theorem t_88_69 : e_Sn 88 69 (e_un n_88_69) := u_aldT (s_iald hq_88 (by decide +kernel) rfl : e_Sn 88 69 (o_ald e_fcs 70)) t_88_70
noncomputable def n_88_67 : e_Y := u_ld f_okI f_l9 n_88_69
theorem t_88_67 : e_Sn 88 67 (e_un n_88_67) := u_ldIT f_l9_eq (s_iload (i := .iload 9) (len := 2) hq_88 (by decide +kernel) rfl (.inl ⟨rfl, rfl⟩) : e_Sn 88 67 (o_load e_okI 9 69)) t_88_69
noncomputable def n_88_66 : e_Y := u_ld f_okA f_l2 n_88_67
theorem t_88_66 : e_Sn 88 66 (e_un n_88_66) := u_ldAT f_l2_eq (s_aload (i := .aload_n 2) (len := 1) hq_88 (by decide +kernel) rfl (.inr ⟨2, rfl, rfl, rfl⟩) : e_Sn 88 66 (o_load e_okR 2 67)) t_88_67
noncomputable def n_88_64 : e_Y := u_st f_okI f_s10 n_88_66
theorem t_88_64 : e_Sn 88 64 (e_un n_88_64) := u_stIT (fun _ _ _ => f_s10_eq) (s_istore (i := .istore 10) (len := 2) hq_88 (by decide +kernel) rfl (.inl ⟨rfl, rfl⟩) : e_Sn 88 64 (o_store e_okI 10 66)) t_88_66
noncomputable def n_88_63 : e_Y := u_bin a_iadd (u_old (o_iadd 64) n_88_64) n_88_64
theorem t_88_63 : e_Sn 88 63 (e_un n_88_63) := u_iaddT (s_iadd hq_88 (by decide +kernel) rfl : e_Sn 88 63 (o_iadd 64)) t_88_64
noncomputable def n_88_61 : e_Y := u_ld f_okI f_l5 n_88_63
theorem t_88_61 : e_Sn 88 61 (e_un n_88_61) := u_ldIT f_l5_eq (s_iload (i := .iload 5) (len := 2) hq_88 (by decide +kernel) rfl (.inl ⟨rfl, rfl⟩) : e_Sn 88 61 (o_load e_okI 5 63)) t_88_63
noncomputable def n_88_60 : e_Y := u_ald 0 (u_old (o_ald e_fcs 61) n_88_61) n_88_61
theorem t_88_60 : e_Sn 88 60 (e_un n_88_60) := u_aldT (s_iald hq_88 (by decide +kernel) rfl : e_Sn 88 60 (o_ald e_fcs 61)) t_88_61
noncomputable def n_88_58 : e_Y := u_ld f_okI f_l9 n_88_60
theorem t_88_58 : e_Sn 88 58 (e_un n_88_58) := u_ldIT f_l9_eq (s_iload (i := .iload 9) (len := 2) hq_88 (by decide +kernel) rfl (.inl ⟨rfl, rfl⟩) : e_Sn 88 58 (o_load e_okI 9 60)) t_88_60
noncomputable def n_88_57 : e_Y := u_ld f_okA f_l1 n_88_58
theorem t_88_57 : e_Sn 88 57 (e_un n_88_57) := u_ldAT f_l1_eq (s_aload (i := .aload_n 1) (len := 1) hq_88 (by decide +kernel) rfl (.inr ⟨1, rfl, rfl, rfl⟩) : e_Sn 88 57 (o_load e_okR 1 58)) t_88_58
noncomputable def n_88_54 : e_Y := u_jmp y_ge (u_old2 (o_clt 57 132) 57 n_88_57 n_88_132) n_88_57 n_88_132
theorem t_88_54 : e_Sn 88 54 (e_un n_88_54) := u_cltT rfl (s_cge (off := (78)) hq_88 (by decide +kernel) rfl rfl : e_Sn 88 54 (o_clt 57 132)) t_88_57 t_88_132
noncomputable def n_88_52 : e_Y := u_ld f_okI f_l4 n_88_54
theorem t_88_52 : e_Sn 88 52 (e_un n_88_52) := u_ldIT f_l4_eq (s_iload (i := .iload 4) (len := 2) hq_88 (by decide +kernel) rfl (.inl ⟨rfl, rfl⟩) : e_Sn 88 52 (o_load e_okI 4 54)) t_88_54
noncomputable def n_88_50 : e_Y := u_ld f_okI f_l9 n_88_52
theorem t_88_50 : e_Sn 88 50 (e_un n_88_50) := u_ldIT f_l9_eq (s_iload (i := .iload 9) (len := 2) hq_88 (by decide +kernel) rfl (.inl ⟨rfl, rfl⟩) : e_Sn 88 50 (o_load e_okI 9 52)) t_88_52
noncomputable def n_88_48 : e_Y := u_st f_okI f_s9 n_88_50
theorem t_88_48 : e_Sn 88 48 (e_un n_88_48) := u_stIT (fun _ _ _ => f_s9_eq) (s_istore (i := .istore 9) (len := 2) hq_88 (by decide +kernel) rfl (.inl ⟨rfl, rfl⟩) : e_Sn 88 48 (o_store e_okI 9 50)) t_88_50
noncomputable def n_88_47 : e_Y := u_ld f_okI f_l3 n_88_48
theorem t_88_47 : e_Sn 88 47 (e_un n_88_47) := u_ldIT f_l3_eq (s_iload (i := .iload_n 3) (len := 1) hq_88 (by decide +kernel) rfl (.inr ⟨3, rfl, rfl, rfl⟩) : e_Sn 88 47 (o_load e_okI 3 48)) t_88_48
noncomputable def n_88_45 : e_Y := u_st f_okI f_s8 n_88_47
theorem t_88_45 : e_Sn 88 45 (e_un n_88_45) := u_stIT (fun _ _ _ => f_s8_eq) (s_istore (i := .istore 8) (len := 2) hq_88 (by decide +kernel) rfl (.inl ⟨rfl, rfl⟩) : e_Sn 88 45 (o_store e_okI 8 47)) t_88_47
noncomputable def n_88_44 : e_Y := u_bin a_iadd (u_old (o_iadd 45) n_88_45) n_88_45
theorem t_88_44 : e_Sn 88 44 (e_un n_88_44) := u_iaddT (s_iadd hq_88 (by decide +kernel) rfl : e_Sn 88 44 (o_iadd 45)) t_88_45
noncomputable def n_88_42 : e_Y := u_ld f_okI f_l6 n_88_44
theorem t_88_42 : e_Sn 88 42 (e_un n_88_42) := u_ldIT f_l6_eq (s_iload (i := .iload 6) (len := 2) hq_88 (by decide +kernel) rfl (.inl ⟨rfl, rfl⟩) : e_Sn 88 42 (o_load e_okI 6 44)) t_88_44
noncomputable def n_88_41 : e_Y := u_ald 0 (u_old (o_ald e_fcs 42) n_88_42) n_88_42
theorem t_88_41 : e_Sn 88 41 (e_un n_88_41) := u_aldT (s_iald hq_88 (by decide +kernel) rfl : e_Sn 88 41 (o_ald e_fcs 42)) t_88_42
noncomputable def n_88_40 : e_Y := u_bin a_isub (u_old (o_isub 41) n_88_41) n_88_41
theorem t_88_40 : e_Sn 88 40 (e_un n_88_40) := u_isubT (s_isub hq_88 (by decide +kernel) rfl : e_Sn 88 40 (o_isub 41)) t_88_41
noncomputable def n_88_39 : e_Y := u_push (.inl 2147483649) n_88_40
theorem t_88_39 : e_Sn 88 39 (e_un n_88_39) := u_pushT (s_iconst (n := (1)) hq_88 (by decide +kernel) rfl ⟨by decide +kernel, by decide +kernel⟩ : e_Sn 88 39 (o_push (.inl 2147483649) 40)) t_88_40
noncomputable def n_88_37 : e_Y := u_ld f_okI f_l4 n_88_39
theorem t_88_37 : e_Sn 88 37 (e_un n_88_37) := u_ldIT f_l4_eq (s_iload (i := .iload 4) (len := 2) hq_88 (by decide +kernel) rfl (.inl ⟨rfl, rfl⟩) : e_Sn 88 37 (o_load e_okI 4 39)) t_88_39
noncomputable def n_88_36 : e_Y := u_ld f_okA f_l2 n_88_37
theorem t_88_36 : e_Sn 88 36 (e_un n_88_36) := u_ldAT f_l2_eq (s_aload (i := .aload_n 2) (len := 1) hq_88 (by decide +kernel) rfl (.inr ⟨2, rfl, rfl, rfl⟩) : e_Sn 88 36 (o_load e_okR 2 37)) t_88_37
noncomputable def n_88_34 : e_Y := u_st f_okI f_s7 n_88_36
theorem t_88_34 : e_Sn 88 34 (e_un n_88_34) := u_stIT (fun _ _ _ => f_s7_eq) (s_istore (i := .istore 7) (len := 2) hq_88 (by decide +kernel) rfl (.inl ⟨rfl, rfl⟩) : e_Sn 88 34 (o_store e_okI 7 36)) t_88_36
noncomputable def n_88_33 : e_Y := u_bin a_iadd (u_old (o_iadd 34) n_88_34) n_88_34
theorem t_88_33 : e_Sn 88 33 (e_un n_88_33) := u_iaddT (s_iadd hq_88 (by decide +kernel) rfl : e_Sn 88 33 (o_iadd 34)) t_88_34
noncomputable def n_88_31 : e_Y := u_ld f_okI f_l5 n_88_33
theorem t_88_31 : e_Sn 88 31 (e_un n_88_31) := u_ldIT f_l5_eq (s_iload (i := .iload 5) (len := 2) hq_88 (by decide +kernel) rfl (.inl ⟨rfl, rfl⟩) : e_Sn 88 31 (o_load e_okI 5 33)) t_88_33
noncomputable def n_88_30 : e_Y := u_ald 0 (u_old (o_ald e_fcs 31) n_88_31) n_88_31
theorem t_88_30 : e_Sn 88 30 (e_un n_88_30) := u_aldT (s_iald hq_88 (by decide +kernel) rfl : e_Sn 88 30 (o_ald e_fcs 31)) t_88_31
noncomputable def n_88_29 : e_Y := u_bin a_isub (u_old (o_isub 30) n_88_30) n_88_30
theorem t_88_29 : e_Sn 88 29 (e_un n_88_29) := u_isubT (s_isub hq_88 (by decide +kernel) rfl : e_Sn 88 29 (o_isub 30)) t_88_30
noncomputable def n_88_28 : e_Y := u_push (.inl 2147483649) n_88_29
theorem t_88_28 : e_Sn 88 28 (e_un n_88_28) := u_pushT (s_iconst (n := (1)) hq_88 (by decide +kernel) rfl ⟨by decide +kernel, by decide +kernel⟩ : e_Sn 88 28 (o_push (.inl 2147483649) 29)) t_88_29
noncomputable def n_88_26 : e_Y := u_ld f_okI f_l4 n_88_28
theorem t_88_26 : e_Sn 88 26 (e_un n_88_26) := u_ldIT f_l4_eq (s_iload (i := .iload 4) (len := 2) hq_88 (by decide +kernel) rfl (.inl ⟨rfl, rfl⟩) : e_Sn 88 26 (o_load e_okI 4 28)) t_88_28
noncomputable def n_88_25 : e_Y := u_ld f_okA f_l1 n_88_26
theorem t_88_25 : e_Sn 88 25 (e_un n_88_25) := u_ldAT f_l1_eq (s_aload (i := .aload_n 1) (len := 1) hq_88 (by decide +kernel) rfl (.inr ⟨1, rfl, rfl, rfl⟩) : e_Sn 88 25 (o_load e_okR 1 26)) t_88_26
noncomputable def n_88_21 : e_Y := u_jmp y_le (u_old2 (o_cgt 24 25) 24 (u_at 24) n_88_25) (u_at 24) n_88_25
theorem t_88_21 : e_Sn 88 21 (e_un n_88_21) := u_cgtT rfl (s_cle (off := (4)) hq_88 (by decide +kernel) rfl rfl : e_Sn 88 21 (o_cgt 24 25)) u_atT t_88_25
noncomputable def n_88_20 : e_Y := u_old (o_alen e_fcs 21) n_88_21
theorem t_88_20 : e_Sn 88 20 (e_un n_88_20) := u_oldT (s_alen hq_88 (by decide +kernel) rfl : e_Sn 88 20 (o_alen e_fcs 21)) t_88_21 (e_cg_alen e_fcs)
noncomputable def n_88_19 : e_Y := u_ld f_okA f_l2 n_88_20
theorem t_88_19 : e_Sn 88 19 (e_un n_88_19) := u_ldAT f_l2_eq (s_aload (i := .aload_n 2) (len := 1) hq_88 (by decide +kernel) rfl (.inr ⟨2, rfl, rfl, rfl⟩) : e_Sn 88 19 (o_load e_okR 2 20)) t_88_20
noncomputable def n_88_17 : e_Y := u_ld f_okI f_l4 n_88_19
theorem t_88_17 : e_Sn 88 17 (e_un n_88_17) := u_ldIT f_l4_eq (s_iload (i := .iload 4) (len := 2) hq_88 (by decide +kernel) rfl (.inl ⟨rfl, rfl⟩) : e_Sn 88 17 (o_load e_okI 4 19)) t_88_19
noncomputable def n_88_14 : e_Y := u_jmp y_le (u_old2 (o_cgt 24 17) 24 (u_at 24) n_88_17) (u_at 24) n_88_17
theorem t_88_14 : e_Sn 88 14 (e_un n_88_14) := u_cgtT rfl (s_cgt (off := (10)) hq_88 (by decide +kernel) rfl rfl : e_Sn 88 14 (o_cgt 24 17)) u_atT t_88_17
noncomputable def n_88_13 : e_Y := u_old (o_alen e_fcs 14) n_88_14
theorem t_88_13 : e_Sn 88 13 (e_un n_88_13) := u_oldT (s_alen hq_88 (by decide +kernel) rfl : e_Sn 88 13 (o_alen e_fcs 14)) t_88_14 (e_cg_alen e_fcs)
noncomputable def n_88_12 : e_Y := u_ld f_okA f_l1 n_88_13
theorem t_88_12 : e_Sn 88 12 (e_un n_88_12) := u_ldAT f_l1_eq (s_aload (i := .aload_n 1) (len := 1) hq_88 (by decide +kernel) rfl (.inr ⟨1, rfl, rfl, rfl⟩) : e_Sn 88 12 (o_load e_okR 1 13)) t_88_13
noncomputable def n_88_10 : e_Y := u_ld f_okI f_l4 n_88_12
theorem t_88_10 : e_Sn 88 10 (e_un n_88_10) := u_ldIT f_l4_eq (s_iload (i := .iload 4) (len := 2) hq_88 (by decide +kernel) rfl (.inl ⟨rfl, rfl⟩) : e_Sn 88 10 (o_load e_okI 4 12)) t_88_12
noncomputable def n_88_7 : e_Y := u_jmp y_le (u_old2 (o_cgt 10 24) 10 n_88_10 (u_at 24)) n_88_10 (u_at 24)
theorem t_88_7 : e_Sn 88 7 (e_un n_88_7) := u_cgtT rfl (s_cle (off := (17)) hq_88 (by decide +kernel) rfl rfl : e_Sn 88 7 (o_cgt 10 24)) t_88_10 u_atT
noncomputable def n_88_6 : e_Y := u_ld f_okI f_l3 n_88_7
theorem t_88_6 : e_Sn 88 6 (e_un n_88_6) := u_ldIT f_l3_eq (s_iload (i := .iload_n 3) (len := 1) hq_88 (by decide +kernel) rfl (.inr ⟨3, rfl, rfl, rfl⟩) : e_Sn 88 6 (o_load e_okI 3 7)) t_88_7
noncomputable def n_88_4 : e_Y := u_ld f_okI f_l4 n_88_6
theorem t_88_4 : e_Sn 88 4 (e_un n_88_4) := u_ldIT f_l4_eq (s_iload (i := .iload 4) (len := 2) hq_88 (by decide +kernel) rfl (.inl ⟨rfl, rfl⟩) : e_Sn 88 4 (o_load e_okI 4 6)) t_88_6
noncomputable def n_88_1 : e_Y := u_if y_ge0 (u_old2 (o_iflt 24 4) 24 (u_at 24) n_88_4) (u_at 24) n_88_4
theorem t_88_1 : e_Sn 88 1 (e_un n_88_1) := u_ifltT rfl (s_iflt (off := (23)) hq_88 (by decide +kernel) rfl rfl : e_Sn 88 1 (o_iflt 24 4)) u_atT t_88_4
noncomputable def n_88_0 : e_Y := u_ld f_okI f_l3 n_88_1
theorem t_88_0 : e_Sn 88 0 (e_un n_88_0) := u_ldIT f_l3_eq (s_iload (i := .iload_n 3) (len := 1) hq_88 (by decide +kernel) rfl (.inr ⟨3, rfl, rfl, rfl⟩) : e_Sn 88 0 (o_load e_okI 3 1)) t_88_1
noncomputable def e_tb_88 : e_X := (e_br 50 (e_lf 0 (e_un n_88_0)) (e_lf 50 (e_un n_88_50)))
theorem e_tk_88 : e_Tb 88 e_tb_88 := (e_brT (e_lfT t_88_0) (e_lfT t_88_50))
theorem hq_25 : (e_ml[25]?).map (·.2.1) = some prog_1_method_27_code := rfl
theorem ho_25 : (e_ml[25]?).map (·.1.cls) = some "Plateroomprinter" := rfl
theorem hr_25 : (e_ml[25]?).map (·.2.2.2) = some (some .int) := rfl
noncomputable def n_25_66 : e_Y := u_retI
theorem t_25_66 : e_Sn 25 66 (e_un n_25_66) := u_retIT (s_iret hq_25 hr_25 (by decide +kernel) : e_Sn 25 66 (o_ret e_okI))
noncomputable def n_25_63 : e_Y := u_callS 3 4 23 2 n_3_0 n_25_66
theorem t_25_63 : e_Sn 25 63 (e_un n_25_63) := u_callST rfl (s_callS (index := 265) hq_25 ho_25 hy_3 hp_3 hc_3 hi_3 hd_3 (List.mem_of_getElem? (i := 1266) (by decide +kernel)) hs_3 (by decide +kernel) rfl : e_Sn 25 63 (o_callS 3 4 2 66)) t_3_0 t_25_66
noncomputable def n_25_62 : e_Y := u_push (.inl 2147483648) n_25_63
theorem t_25_62 : e_Sn 25 62 (e_un n_25_62) := u_pushT (s_iconst (n := (0)) hq_25 (by decide +kernel) rfl ⟨by decide +kernel, by decide +kernel⟩ : e_Sn 25 62 (o_push (.inl 2147483648) 63)) t_25_63
noncomputable def n_25_59 : e_Y := u_getf 0 7 (u_old (o_getf (e_f1 0 7) 62) n_25_62) n_25_62
theorem t_25_59 : e_Sn 25 59 (e_un n_25_59) := u_getfT (s_getf (C := er_0) (T := et_0) (N := 17) (ref := "Plateroomprinter") (index := 58) (ci := 0) (k := 7) hq_25 ho_25 ⟨rfl, by decide, ei_0, (List.mem_of_getElem? (i := 687) (by decide +kernel)), .inl rfl⟩ (by decide +kernel) rfl : e_Sn 25 59 (o_getf (e_f1 0 7) 62)) t_25_62
noncomputable def n_25_58 : e_Y := u_ld f_okA f_l0 n_25_59
theorem t_25_58 : e_Sn 25 58 (e_un n_25_58) := u_ldAT f_l0_eq (s_aload (i := .aload_n 0) (len := 1) hq_25 (by decide +kernel) rfl (.inr ⟨0, rfl, rfl, rfl⟩) : e_Sn 25 58 (o_load e_okR 0 59)) t_25_59
noncomputable def n_25_55 : e_Y := u_callV 8 89 7 26 3 n_89_0 n_25_58
theorem t_25_55 : e_Sn 25 55 (e_un n_25_55) := u_callVT rfl (s_callV (ci := 8) (C := er_8) (T := et_8) (N := 3) (index := 358) hq_25 ho_25 hy_89 hp_89 hc_89 hi_89 hd_89 (List.mem_of_getElem? (i := 1265) (by decide +kernel)) hs_89 (List.mem_of_getElem? (i := 1054) (by decide +kernel)) rfl (by decide +kernel) rfl : e_Sn 25 55 (o_callV (e_s1 8 89 7) 3 58)) t_89_0 t_25_58
noncomputable def n_25_52 : e_Y := u_getf 0 7 (u_old (o_getf (e_f1 0 7) 55) n_25_55) n_25_55
theorem t_25_52 : e_Sn 25 52 (e_un n_25_52) := u_getfT (s_getf (C := er_0) (T := et_0) (N := 17) (ref := "Plateroomprinter") (index := 58) (ci := 0) (k := 7) hq_25 ho_25 ⟨rfl, by decide, ei_0, (List.mem_of_getElem? (i := 687) (by decide +kernel)), .inl rfl⟩ (by decide +kernel) rfl : e_Sn 25 52 (o_getf (e_f1 0 7) 55)) t_25_55
noncomputable def n_25_51 : e_Y := u_ld f_okA f_l0 n_25_52
theorem t_25_51 : e_Sn 25 51 (e_un n_25_51) := u_ldAT f_l0_eq (s_aload (i := .aload_n 0) (len := 1) hq_25 (by decide +kernel) rfl (.inr ⟨0, rfl, rfl, rfl⟩) : e_Sn 25 51 (o_load e_okR 0 52)) t_25_52
noncomputable def n_25_50 : e_Y := u_push (.inl 2147483648) n_25_51
theorem t_25_50 : e_Sn 25 50 (e_un n_25_50) := u_pushT (s_iconst (n := (0)) hq_25 (by decide +kernel) rfl ⟨by decide +kernel, by decide +kernel⟩ : e_Sn 25 50 (o_push (.inl 2147483648) 51)) t_25_51
noncomputable def n_25_47 : e_Y := u_getf 0 3 (u_old (o_getf (e_f1 0 3) 50) n_25_50) n_25_50
theorem t_25_47 : e_Sn 25 47 (e_un n_25_47) := u_getfT (s_getf (C := er_0) (T := et_0) (N := 17) (ref := "Plateroomprinter") (index := 29) (ci := 0) (k := 3) hq_25 ho_25 ⟨rfl, by decide, ei_0, (List.mem_of_getElem? (i := 683) (by decide +kernel)), .inl rfl⟩ (by decide +kernel) rfl : e_Sn 25 47 (o_getf (e_f1 0 3) 50)) t_25_50
noncomputable def n_25_46 : e_Y := u_ld f_okA f_l0 n_25_47
theorem t_25_46 : e_Sn 25 46 (e_un n_25_46) := u_ldAT f_l0_eq (s_aload (i := .aload_n 0) (len := 1) hq_25 (by decide +kernel) rfl (.inr ⟨0, rfl, rfl, rfl⟩) : e_Sn 25 46 (o_load e_okR 0 47)) t_25_47
noncomputable def n_25_43 : e_Y := u_callV 8 88 12 31 7 n_88_0 n_25_46
theorem t_25_43 : e_Sn 25 43 (e_un n_25_43) := u_callVT rfl (s_callV (ci := 8) (C := er_8) (T := et_8) (N := 3) (index := 354) hq_25 ho_25 hy_88 hp_88 hc_88 hi_88 hd_88 (List.mem_of_getElem? (i := 1264) (by decide +kernel)) hs_88 (List.mem_of_getElem? (i := 1043) (by decide +kernel)) rfl (by decide +kernel) rfl : e_Sn 25 43 (o_callV (e_s1 8 88 12) 7 46)) t_88_0 t_25_46
noncomputable def n_25_42 : e_Y := u_push (.inl 2147483648) n_25_43
theorem t_25_42 : e_Sn 25 42 (e_un n_25_42) := u_pushT (s_iconst (n := (0)) hq_25 (by decide +kernel) rfl ⟨by decide +kernel, by decide +kernel⟩ : e_Sn 25 42 (o_push (.inl 2147483648) 43)) t_25_43
noncomputable def n_25_41 : e_Y := u_push (.inl 2147483648) n_25_42
theorem t_25_41 : e_Sn 25 41 (e_un n_25_41) := u_pushT (s_iconst (n := (0)) hq_25 (by decide +kernel) rfl ⟨by decide +kernel, by decide +kernel⟩ : e_Sn 25 41 (o_push (.inl 2147483648) 42)) t_25_42
noncomputable def n_25_40 : e_Y := u_old (o_alen e_fcs 41) n_25_41
theorem t_25_40 : e_Sn 25 40 (e_un n_25_40) := u_oldT (s_alen hq_25 (by decide +kernel) rfl : e_Sn 25 40 (o_alen e_fcs 41)) t_25_41 (e_cg_alen e_fcs)
noncomputable def n_25_37 : e_Y := u_push (e_B 1) n_25_40
theorem t_25_37 : e_Sn 25 37 (e_un n_25_37) := u_pushT (s_gets (k := 1) (index := 348) (C := "Plateroomprinter") (f := "PAGE_XS") (d := "[I") hq_25 ho_25 (List.mem_of_getElem? (i := 1260) (by decide +kernel)) (by simp [e_sv]) (by decide +kernel) rfl : e_Sn 25 37 (o_push (e_B 1) 40)) t_25_40
noncomputable def n_25_36 : e_Y := u_push (.inl 2147483648) n_25_37
theorem t_25_36 : e_Sn 25 36 (e_un n_25_36) := u_pushT (s_iconst (n := (0)) hq_25 (by decide +kernel) rfl ⟨by decide +kernel, by decide +kernel⟩ : e_Sn 25 36 (o_push (.inl 2147483648) 37)) t_25_37
noncomputable def n_25_33 : e_Y := u_push (e_B 2) n_25_36
theorem t_25_33 : e_Sn 25 33 (e_un n_25_33) := u_pushT (s_gets (k := 2) (index := 351) (C := "Plateroomprinter") (f := "PAGE_YS") (d := "[I") hq_25 ho_25 (List.mem_of_getElem? (i := 1262) (by decide +kernel)) (by simp [e_sv]) (by decide +kernel) rfl : e_Sn 25 33 (o_push (e_B 2) 36)) t_25_36
noncomputable def n_25_30 : e_Y := u_push (e_B 1) n_25_33
theorem t_25_30 : e_Sn 25 30 (e_un n_25_30) := u_pushT (s_gets (k := 1) (index := 348) (C := "Plateroomprinter") (f := "PAGE_XS") (d := "[I") hq_25 ho_25 (List.mem_of_getElem? (i := 1260) (by decide +kernel)) (by simp [e_sv]) (by decide +kernel) rfl : e_Sn 25 30 (o_push (e_B 1) 33)) t_25_33
noncomputable def n_25_27 : e_Y := u_getf 0 3 (u_old (o_getf (e_f1 0 3) 30) n_25_30) n_25_30
theorem t_25_27 : e_Sn 25 27 (e_un n_25_27) := u_getfT (s_getf (C := er_0) (T := et_0) (N := 17) (ref := "Plateroomprinter") (index := 29) (ci := 0) (k := 3) hq_25 ho_25 ⟨rfl, by decide, ei_0, (List.mem_of_getElem? (i := 683) (by decide +kernel)), .inl rfl⟩ (by decide +kernel) rfl : e_Sn 25 27 (o_getf (e_f1 0 3) 30)) t_25_30
noncomputable def n_25_26 : e_Y := u_ld f_okA f_l0 n_25_27
theorem t_25_26 : e_Sn 25 26 (e_un n_25_26) := u_ldAT f_l0_eq (s_aload (i := .aload_n 0) (len := 1) hq_25 (by decide +kernel) rfl (.inr ⟨0, rfl, rfl, rfl⟩) : e_Sn 25 26 (o_load e_okR 0 27)) t_25_27
noncomputable def n_25_23 : e_Y := u_callV 8 87 6 25 4 n_87_0 n_25_26
theorem t_25_23 : e_Sn 25 23 (e_un n_25_23) := u_callVT rfl (s_callV (ci := 8) (C := er_8) (T := et_8) (N := 3) (index := 344) hq_25 ho_25 hy_87 hp_87 hc_87 hi_87 hd_87 (List.mem_of_getElem? (i := 1259) (by decide +kernel)) hs_87 (List.mem_of_getElem? (i := 1200) (by decide +kernel)) rfl (by decide +kernel) rfl : e_Sn 25 23 (o_callV (e_s1 8 87 6) 4 26)) t_87_0 t_25_26
noncomputable def n_25_22 : e_Y := u_push (.inl 2147483648) n_25_23
theorem t_25_22 : e_Sn 25 22 (e_un n_25_22) := u_pushT (s_iconst (n := (0)) hq_25 (by decide +kernel) rfl ⟨by decide +kernel, by decide +kernel⟩ : e_Sn 25 22 (o_push (.inl 2147483648) 23)) t_25_23
noncomputable def n_25_21 : e_Y := u_push (.inl 2147483648) n_25_22
theorem t_25_21 : e_Sn 25 21 (e_un n_25_21) := u_pushT (s_iconst (n := (0)) hq_25 (by decide +kernel) rfl ⟨by decide +kernel, by decide +kernel⟩ : e_Sn 25 21 (o_push (.inl 2147483648) 22)) t_25_22
noncomputable def n_25_18 : e_Y := u_getf 10 1 (u_old (o_getf (e_f1 10 1) 21) n_25_21) n_25_21
theorem t_25_18 : e_Sn 25 18 (e_un n_25_18) := u_getfT (s_getf (C := er_10) (T := et_10) (N := 11) (ref := "Plateroomprinter$State") (index := 250) (ci := 10) (k := 1) hq_25 ho_25 ⟨rfl, by decide, ei_10, (List.mem_of_getElem? (i := 321) (by decide +kernel)), .inl rfl⟩ (by decide +kernel) rfl : e_Sn 25 18 (o_getf (e_f1 10 1) 21)) t_25_21
noncomputable def n_25_15 : e_Y := u_getf 11 2 (u_old (o_getf (e_f1 11 2) 18) n_25_18) n_25_18
theorem t_25_15 : e_Sn 25 15 (e_un n_25_15) := u_getfT (s_getf (C := er_11) (T := et_11) (N := 15) (ref := "Plateroomprinter$World") (index := 221) (ci := 11) (k := 2) hq_25 ho_25 ⟨rfl, by decide, ei_11, (List.mem_of_getElem? (i := 467) (by decide +kernel)), .inl rfl⟩ (by decide +kernel) rfl : e_Sn 25 15 (o_getf (e_f1 11 2) 18)) t_25_18
noncomputable def n_25_12 : e_Y := u_getf 0 1 (u_old (o_getf (e_f1 0 1) 15) n_25_15) n_25_15
theorem t_25_12 : e_Sn 25 12 (e_un n_25_12) := u_getfT (s_getf (C := er_0) (T := et_0) (N := 17) (ref := "Plateroomprinter") (index := 19) (ci := 0) (k := 1) hq_25 ho_25 ⟨rfl, by decide, ei_0, (List.mem_of_getElem? (i := 681) (by decide +kernel)), .inl rfl⟩ (by decide +kernel) rfl : e_Sn 25 12 (o_getf (e_f1 0 1) 15)) t_25_15
noncomputable def n_25_11 : e_Y := u_ld f_okA f_l0 n_25_12
theorem t_25_11 : e_Sn 25 11 (e_un n_25_11) := u_ldAT f_l0_eq (s_aload (i := .aload_n 0) (len := 1) hq_25 (by decide +kernel) rfl (.inr ⟨0, rfl, rfl, rfl⟩) : e_Sn 25 11 (o_load e_okR 0 12)) t_25_12
noncomputable def n_25_8 : e_Y := u_getf 0 3 (u_old (o_getf (e_f1 0 3) 11) n_25_11) n_25_11
theorem t_25_8 : e_Sn 25 8 (e_un n_25_8) := u_getfT (s_getf (C := er_0) (T := et_0) (N := 17) (ref := "Plateroomprinter") (index := 29) (ci := 0) (k := 3) hq_25 ho_25 ⟨rfl, by decide, ei_0, (List.mem_of_getElem? (i := 683) (by decide +kernel)), .inl rfl⟩ (by decide +kernel) rfl : e_Sn 25 8 (o_getf (e_f1 0 3) 11)) t_25_11
noncomputable def n_25_7 : e_Y := u_ld f_okA f_l0 n_25_8
theorem t_25_7 : e_Sn 25 7 (e_un n_25_7) := u_ldAT f_l0_eq (s_aload (i := .aload_n 0) (len := 1) hq_25 (by decide +kernel) rfl (.inr ⟨0, rfl, rfl, rfl⟩) : e_Sn 25 7 (o_load e_okR 0 8)) t_25_8
noncomputable def n_25_4 : e_Y := u_callS 4 2 21 1 n_4_0 n_25_7
theorem t_25_4 : e_Sn 25 4 (e_un n_25_4) := u_callST rfl (s_callS (index := 340) hq_25 ho_25 hy_4 hp_4 hc_4 hi_4 hd_4 (List.mem_of_getElem? (i := 1258) (by decide +kernel)) hs_4 (by decide +kernel) rfl : e_Sn 25 4 (o_callS 4 2 1 7)) t_4_0 t_25_7
noncomputable def n_25_1 : e_Y := u_getf 0 7 (u_old (o_getf (e_f1 0 7) 4) n_25_4) n_25_4
theorem t_25_1 : e_Sn 25 1 (e_un n_25_1) := u_getfT (s_getf (C := er_0) (T := et_0) (N := 17) (ref := "Plateroomprinter") (index := 58) (ci := 0) (k := 7) hq_25 ho_25 ⟨rfl, by decide, ei_0, (List.mem_of_getElem? (i := 687) (by decide +kernel)), .inl rfl⟩ (by decide +kernel) rfl : e_Sn 25 1 (o_getf (e_f1 0 7) 4)) t_25_4
noncomputable def n_25_0 : e_Y := u_ld f_okA f_l0 n_25_1
theorem t_25_0 : e_Sn 25 0 (e_un n_25_0) := u_ldAT f_l0_eq (s_aload (i := .aload_n 0) (len := 1) hq_25 (by decide +kernel) rfl (.inr ⟨0, rfl, rfl, rfl⟩) : e_Sn 25 0 (o_load e_okR 0 1)) t_25_1
noncomputable def e_tb_25 : e_X := (e_lf 0 (e_un n_25_0))
theorem e_tk_25 : e_Tb 25 e_tb_25 := (e_lfT t_25_0)
theorem hq_9 : (e_ml[9]?).map (·.2.1) = some prog_1_method_61_code := rfl
theorem ho_9 : (e_ml[9]?).map (·.1.cls) = some "Plateroomprinter" := rfl
theorem hr_9 : (e_ml[9]?).map (·.2.2.2) = some (some .long) := rfl
noncomputable def n_9_209 : e_Y := u_tab (o_ret e_okL)
theorem t_9_209 : e_Sn 9 209 (e_un n_9_209) := u_tabT (s_lret hq_9 hr_9 (by decide +kernel) : e_Sn 9 209 (o_ret e_okL))
noncomputable def n_9_208 : e_Y := u_old (o_ladd 209) n_9_209
theorem t_9_208 : e_Sn 9 208 (e_un n_9_208) := u_oldT (s_ladd hq_9 (by decide +kernel) rfl : e_Sn 9 208 (o_ladd 209)) t_9_209 e_cg_ladd
noncomputable def n_9_207 : e_Y := u_old (o_i2l 208) n_9_208
theorem t_9_207 : e_Sn 9 207 (e_un n_9_207) := u_oldT (s_i2l hq_9 (by decide +kernel) rfl : e_Sn 9 207 (o_i2l 208)) t_9_208 e_congr_i2l
noncomputable def n_9_204 : e_Y := u_callV 0 25 1 20 1 n_25_0 n_9_207
theorem t_9_204 : e_Sn 9 204 (e_un n_9_204) := u_callVT rfl (s_callV (ci := 0) (C := er_0) (T := et_0) (N := 17) (index := 436) hq_9 ho_9 hy_25 hp_25 hc_25 hi_25 hd_25 (List.mem_of_getElem? (i := 1286) (by decide +kernel)) hs_25 (List.mem_of_getElem? (i := 1256) (by decide +kernel)) rfl (by decide +kernel) rfl : e_Sn 9 204 (o_callV (e_s1 0 25 1) 1 207)) t_25_0 t_9_207
noncomputable def n_9_203 : e_Y := u_ld f_okA f_l0 n_9_204
theorem t_9_203 : e_Sn 9 203 (e_un n_9_203) := u_ldAT f_l0_eq (s_aload (i := .aload_n 0) (len := 1) hq_9 (by decide +kernel) rfl (.inr ⟨0, rfl, rfl, rfl⟩) : e_Sn 9 203 (o_load e_okR 0 204)) t_9_204
noncomputable def n_9_202 : e_Y := u_old (o_lmul 203) n_9_203
theorem t_9_202 : e_Sn 9 202 (e_un n_9_202) := u_oldT (s_lmul hq_9 (by decide +kernel) rfl : e_Sn 9 202 (o_lmul 203)) t_9_203 e_cg_lmul
noncomputable def n_9_199 : e_Y := u_push (e_L 9223372036854775839) n_9_202
theorem t_9_199 : e_Sn 9 199 (e_un n_9_199) := u_pushT (s_ldc2 (index := 470) (v := (31)) hq_9 ho_9 (List.mem_of_getElem? (i := 1449) (by decide +kernel)) (by decide +kernel) rfl ⟨by decide +kernel, by decide +kernel⟩ : e_Sn 9 199 (o_push (e_L 9223372036854775839) 202)) t_9_202
noncomputable def n_9_198 : e_Y := u_old (o_load e_okL 3 199) n_9_199
theorem t_9_198 : e_Sn 9 198 (e_un n_9_198) := u_oldT (s_lload (i := .lload_n 3) (len := 1) hq_9 (by decide +kernel) rfl (.inr ⟨3, rfl, rfl, rfl⟩) : e_Sn 9 198 (o_load e_okL 3 199)) t_9_199 e_congr_load
noncomputable def n_9_197 : e_Y := u_old (o_storeL 3 198) n_9_198
theorem t_9_197 : e_Sn 9 197 (e_un n_9_197) := u_oldT (s_lstore (i := .lstore_n 3) (len := 1) hq_9 (by decide +kernel) rfl (.inr ⟨3, rfl, rfl, rfl⟩) : e_Sn 9 197 (o_storeL 3 198)) t_9_198 (e_cg_storeL 3)
noncomputable def n_9_196 : e_Y := u_old (o_ladd 197) n_9_197
theorem t_9_196 : e_Sn 9 196 (e_un n_9_196) := u_oldT (s_ladd hq_9 (by decide +kernel) rfl : e_Sn 9 196 (o_ladd 197)) t_9_197 e_cg_ladd
noncomputable def n_9_195 : e_Y := u_old (o_i2l 196) n_9_196
theorem t_9_195 : e_Sn 9 195 (e_un n_9_195) := u_oldT (s_i2l hq_9 (by decide +kernel) rfl : e_Sn 9 195 (o_i2l 196)) t_9_196 e_congr_i2l
noncomputable def n_9_192 : e_Y := u_callV 0 14 2 21 2 n_14_0 n_9_195
theorem t_9_192 : e_Sn 9 192 (e_un n_9_192) := u_callVT rfl (s_callV (ci := 0) (C := er_0) (T := et_0) (N := 17) (index := 439) hq_9 ho_9 hy_14 hp_14 hc_14 hi_14 hd_14 (List.mem_of_getElem? (i := 1287) (by decide +kernel)) hs_14 (List.mem_of_getElem? (i := 1289) (by decide +kernel)) rfl (by decide +kernel) rfl : e_Sn 9 192 (o_callV (e_s1 0 14 2) 2 195)) t_14_0 t_9_195
noncomputable def n_9_191 : e_Y := u_push (.inl 2147483649) n_9_192
theorem t_9_191 : e_Sn 9 191 (e_un n_9_191) := u_pushT (s_iconst (n := (1)) hq_9 (by decide +kernel) rfl ⟨by decide +kernel, by decide +kernel⟩ : e_Sn 9 191 (o_push (.inl 2147483649) 192)) t_9_192
noncomputable def n_9_190 : e_Y := u_ld f_okA f_l0 n_9_191
theorem t_9_190 : e_Sn 9 190 (e_un n_9_190) := u_ldAT f_l0_eq (s_aload (i := .aload_n 0) (len := 1) hq_9 (by decide +kernel) rfl (.inr ⟨0, rfl, rfl, rfl⟩) : e_Sn 9 190 (o_load e_okR 0 191)) t_9_191
noncomputable def n_9_189 : e_Y := u_old (o_lmul 190) n_9_190
theorem t_9_189 : e_Sn 9 189 (e_un n_9_189) := u_oldT (s_lmul hq_9 (by decide +kernel) rfl : e_Sn 9 189 (o_lmul 190)) t_9_190 e_cg_lmul
noncomputable def n_9_186 : e_Y := u_push (e_L 9223372036854775839) n_9_189
theorem t_9_186 : e_Sn 9 186 (e_un n_9_186) := u_pushT (s_ldc2 (index := 470) (v := (31)) hq_9 ho_9 (List.mem_of_getElem? (i := 1449) (by decide +kernel)) (by decide +kernel) rfl ⟨by decide +kernel, by decide +kernel⟩ : e_Sn 9 186 (o_push (e_L 9223372036854775839) 189)) t_9_189
noncomputable def n_9_185 : e_Y := u_old (o_load e_okL 3 186) n_9_186
theorem t_9_185 : e_Sn 9 185 (e_un n_9_185) := u_oldT (s_lload (i := .lload_n 3) (len := 1) hq_9 (by decide +kernel) rfl (.inr ⟨3, rfl, rfl, rfl⟩) : e_Sn 9 185 (o_load e_okL 3 186)) t_9_186 e_congr_load
noncomputable def n_9_184 : e_Y := u_old (o_storeL 3 185) n_9_185
theorem t_9_184 : e_Sn 9 184 (e_un n_9_184) := u_oldT (s_lstore (i := .lstore_n 3) (len := 1) hq_9 (by decide +kernel) rfl (.inr ⟨3, rfl, rfl, rfl⟩) : e_Sn 9 184 (o_storeL 3 185)) t_9_185 (e_cg_storeL 3)
noncomputable def n_9_183 : e_Y := u_old (o_ladd 184) n_9_184
theorem t_9_183 : e_Sn 9 183 (e_un n_9_183) := u_oldT (s_ladd hq_9 (by decide +kernel) rfl : e_Sn 9 183 (o_ladd 184)) t_9_184 e_cg_ladd
noncomputable def n_9_182 : e_Y := u_old (o_i2l 183) n_9_183
theorem t_9_182 : e_Sn 9 182 (e_un n_9_182) := u_oldT (s_i2l hq_9 (by decide +kernel) rfl : e_Sn 9 182 (o_i2l 183)) t_9_183 e_congr_i2l
noncomputable def n_9_179 : e_Y := u_callV 0 14 2 21 2 n_14_0 n_9_182
theorem t_9_179 : e_Sn 9 179 (e_un n_9_179) := u_callVT rfl (s_callV (ci := 0) (C := er_0) (T := et_0) (N := 17) (index := 439) hq_9 ho_9 hy_14 hp_14 hc_14 hi_14 hd_14 (List.mem_of_getElem? (i := 1287) (by decide +kernel)) hs_14 (List.mem_of_getElem? (i := 1289) (by decide +kernel)) rfl (by decide +kernel) rfl : e_Sn 9 179 (o_callV (e_s1 0 14 2) 2 182)) t_14_0 t_9_182
noncomputable def n_9_178 : e_Y := u_push (.inl 2147483648) n_9_179
theorem t_9_178 : e_Sn 9 178 (e_un n_9_178) := u_pushT (s_iconst (n := (0)) hq_9 (by decide +kernel) rfl ⟨by decide +kernel, by decide +kernel⟩ : e_Sn 9 178 (o_push (.inl 2147483648) 179)) t_9_179
noncomputable def n_9_177 : e_Y := u_ld f_okA f_l0 n_9_178
theorem t_9_177 : e_Sn 9 177 (e_un n_9_177) := u_ldAT f_l0_eq (s_aload (i := .aload_n 0) (len := 1) hq_9 (by decide +kernel) rfl (.inr ⟨0, rfl, rfl, rfl⟩) : e_Sn 9 177 (o_load e_okR 0 178)) t_9_178
noncomputable def n_9_176 : e_Y := u_old (o_lmul 177) n_9_177
theorem t_9_176 : e_Sn 9 176 (e_un n_9_176) := u_oldT (s_lmul hq_9 (by decide +kernel) rfl : e_Sn 9 176 (o_lmul 177)) t_9_177 e_cg_lmul
noncomputable def n_9_173 : e_Y := u_push (e_L 9223372036854775839) n_9_176
theorem t_9_173 : e_Sn 9 173 (e_un n_9_173) := u_pushT (s_ldc2 (index := 470) (v := (31)) hq_9 ho_9 (List.mem_of_getElem? (i := 1449) (by decide +kernel)) (by decide +kernel) rfl ⟨by decide +kernel, by decide +kernel⟩ : e_Sn 9 173 (o_push (e_L 9223372036854775839) 176)) t_9_176
noncomputable def n_9_172 : e_Y := u_old (o_load e_okL 3 173) n_9_173
theorem t_9_172 : e_Sn 9 172 (e_un n_9_172) := u_oldT (s_lload (i := .lload_n 3) (len := 1) hq_9 (by decide +kernel) rfl (.inr ⟨3, rfl, rfl, rfl⟩) : e_Sn 9 172 (o_load e_okL 3 173)) t_9_173 e_congr_load
noncomputable def n_9_169 : e_Y := (u_at 129)
theorem t_9_169 : e_Sn 9 169 (e_un n_9_169) := u_gotoT (s_goto (off := (-40)) hq_9 (by decide +kernel) rfl : e_Sn 9 169 (o_goto 129)) u_atT
noncomputable def n_9_166 : e_Y := u_inc f_l5 f_s5 1 n_9_169
theorem t_9_166 : e_Sn 9 166 (e_un n_9_166) := u_incT f_l5_eq (fun _ _ _ => f_s5_eq) (s_iinc (zz := (1)) hq_9 (by decide +kernel) rfl (by decide +kernel) ⟨by decide, by decide⟩ : e_Sn 9 166 (o_iinc 5 1 169)) t_9_169
noncomputable def n_9_163 : e_Y := (u_at 138)
theorem t_9_163 : e_Sn 9 163 (e_un n_9_163) := u_gotoT (s_goto (off := (-25)) hq_9 (by decide +kernel) rfl : e_Sn 9 163 (o_goto 138)) u_atT
noncomputable def n_9_160 : e_Y := u_inc f_l6 f_s6 1 n_9_163
theorem t_9_160 : e_Sn 9 160 (e_un n_9_160) := u_incT f_l6_eq (fun _ _ _ => f_s6_eq) (s_iinc (zz := (1)) hq_9 (by decide +kernel) rfl (by decide +kernel) ⟨by decide, by decide⟩ : e_Sn 9 160 (o_iinc 6 1 163)) t_9_163
noncomputable def n_9_159 : e_Y := u_old (o_storeL 3 160) n_9_160
theorem t_9_159 : e_Sn 9 159 (e_un n_9_159) := u_oldT (s_lstore (i := .lstore_n 3) (len := 1) hq_9 (by decide +kernel) rfl (.inr ⟨3, rfl, rfl, rfl⟩) : e_Sn 9 159 (o_storeL 3 160)) t_9_160 (e_cg_storeL 3)
noncomputable def n_9_158 : e_Y := u_old (o_ladd 159) n_9_159
theorem t_9_158 : e_Sn 9 158 (e_un n_9_158) := u_oldT (s_ladd hq_9 (by decide +kernel) rfl : e_Sn 9 158 (o_ladd 159)) t_9_159 e_cg_ladd
noncomputable def n_9_157 : e_Y := u_old (o_i2l 158) n_9_158
theorem t_9_157 : e_Sn 9 157 (e_un n_9_157) := u_oldT (s_i2l hq_9 (by decide +kernel) rfl : e_Sn 9 157 (o_i2l 158)) t_9_158 e_congr_i2l
noncomputable def n_9_154 : e_Y := u_callV 0 20 3 22 3 n_20_0 n_9_157
theorem t_9_154 : e_Sn 9 154 (e_un n_9_154) := u_callVT rfl (s_callV (ci := 0) (C := er_0) (T := et_0) (N := 17) (index := 533) hq_9 ho_9 hy_20 hp_20 hc_20 hi_20 hd_20 (List.mem_of_getElem? (i := 1520) (by decide +kernel)) hs_20 (List.mem_of_getElem? (i := 1522) (by decide +kernel)) rfl (by decide +kernel) rfl : e_Sn 9 154 (o_callV (e_s1 0 20 3) 3 157)) t_20_0 t_9_157
noncomputable def n_9_152 : e_Y := u_ld f_okI f_l6 n_9_154
theorem t_9_152 : e_Sn 9 152 (e_un n_9_152) := u_ldIT f_l6_eq (s_iload (i := .iload 6) (len := 2) hq_9 (by decide +kernel) rfl (.inl ⟨rfl, rfl⟩) : e_Sn 9 152 (o_load e_okI 6 154)) t_9_154
noncomputable def n_9_150 : e_Y := u_ld f_okI f_l5 n_9_152
theorem t_9_150 : e_Sn 9 150 (e_un n_9_150) := u_ldIT f_l5_eq (s_iload (i := .iload 5) (len := 2) hq_9 (by decide +kernel) rfl (.inl ⟨rfl, rfl⟩) : e_Sn 9 150 (o_load e_okI 5 152)) t_9_152
noncomputable def n_9_149 : e_Y := u_ld f_okA f_l0 n_9_150
theorem t_9_149 : e_Sn 9 149 (e_un n_9_149) := u_ldAT f_l0_eq (s_aload (i := .aload_n 0) (len := 1) hq_9 (by decide +kernel) rfl (.inr ⟨0, rfl, rfl, rfl⟩) : e_Sn 9 149 (o_load e_okR 0 150)) t_9_150
noncomputable def n_9_148 : e_Y := u_old (o_lmul 149) n_9_149
theorem t_9_148 : e_Sn 9 148 (e_un n_9_148) := u_oldT (s_lmul hq_9 (by decide +kernel) rfl : e_Sn 9 148 (o_lmul 149)) t_9_149 e_cg_lmul
noncomputable def n_9_145 : e_Y := u_push (e_L 9223372036854775839) n_9_148
theorem t_9_145 : e_Sn 9 145 (e_un n_9_145) := u_pushT (s_ldc2 (index := 470) (v := (31)) hq_9 ho_9 (List.mem_of_getElem? (i := 1449) (by decide +kernel)) (by decide +kernel) rfl ⟨by decide +kernel, by decide +kernel⟩ : e_Sn 9 145 (o_push (e_L 9223372036854775839) 148)) t_9_148
noncomputable def n_9_144 : e_Y := u_old (o_load e_okL 3 145) n_9_145
theorem t_9_144 : e_Sn 9 144 (e_un n_9_144) := u_oldT (s_lload (i := .lload_n 3) (len := 1) hq_9 (by decide +kernel) rfl (.inr ⟨3, rfl, rfl, rfl⟩) : e_Sn 9 144 (o_load e_okL 3 145)) t_9_145 e_congr_load
noncomputable def n_9_141 : e_Y := u_jmp y_ge (u_old2 (o_clt 144 166) 144 n_9_144 n_9_166) n_9_144 n_9_166
theorem t_9_141 : e_Sn 9 141 (e_un n_9_141) := u_cltT rfl (s_cge (off := (25)) hq_9 (by decide +kernel) rfl rfl : e_Sn 9 141 (o_clt 144 166)) t_9_144 t_9_166
noncomputable def n_9_140 : e_Y := u_push (.inl 2147483651) n_9_141
theorem t_9_140 : e_Sn 9 140 (e_un n_9_140) := u_pushT (s_iconst (n := (3)) hq_9 (by decide +kernel) rfl ⟨by decide +kernel, by decide +kernel⟩ : e_Sn 9 140 (o_push (.inl 2147483651) 141)) t_9_141
noncomputable def n_9_138 : e_Y := u_ld f_okI f_l6 n_9_140
theorem t_9_138 : e_Sn 9 138 (e_un n_9_138) := u_ldIT f_l6_eq (s_iload (i := .iload 6) (len := 2) hq_9 (by decide +kernel) rfl (.inl ⟨rfl, rfl⟩) : e_Sn 9 138 (o_load e_okI 6 140)) t_9_140
noncomputable def n_9_136 : e_Y := u_st f_okI f_s6 n_9_138
theorem t_9_136 : e_Sn 9 136 (e_un n_9_136) := u_stIT (fun _ _ _ => f_s6_eq) (s_istore (i := .istore 6) (len := 2) hq_9 (by decide +kernel) rfl (.inl ⟨rfl, rfl⟩) : e_Sn 9 136 (o_store e_okI 6 138)) t_9_138
noncomputable def n_9_135 : e_Y := u_push (.inl 2147483648) n_9_136
theorem t_9_135 : e_Sn 9 135 (e_un n_9_135) := u_pushT (s_iconst (n := (0)) hq_9 (by decide +kernel) rfl ⟨by decide +kernel, by decide +kernel⟩ : e_Sn 9 135 (o_push (.inl 2147483648) 136)) t_9_136
noncomputable def n_9_132 : e_Y := u_jmp y_ge (u_old2 (o_clt 135 172) 135 n_9_135 n_9_172) n_9_135 n_9_172
theorem t_9_132 : e_Sn 9 132 (e_un n_9_132) := u_cltT rfl (s_cge (off := (40)) hq_9 (by decide +kernel) rfl rfl : e_Sn 9 132 (o_clt 135 172)) t_9_135 t_9_172
noncomputable def n_9_131 : e_Y := u_push (.inl 2147483653) n_9_132
theorem t_9_131 : e_Sn 9 131 (e_un n_9_131) := u_pushT (s_iconst (n := (5)) hq_9 (by decide +kernel) rfl ⟨by decide +kernel, by decide +kernel⟩ : e_Sn 9 131 (o_push (.inl 2147483653) 132)) t_9_132
noncomputable def n_9_129 : e_Y := u_ld f_okI f_l5 n_9_131
theorem t_9_129 : e_Sn 9 129 (e_un n_9_129) := u_ldIT f_l5_eq (s_iload (i := .iload 5) (len := 2) hq_9 (by decide +kernel) rfl (.inl ⟨rfl, rfl⟩) : e_Sn 9 129 (o_load e_okI 5 131)) t_9_131
noncomputable def n_9_127 : e_Y := u_st f_okI f_s5 n_9_129
theorem t_9_127 : e_Sn 9 127 (e_un n_9_127) := u_stIT (fun _ _ _ => f_s5_eq) (s_istore (i := .istore 5) (len := 2) hq_9 (by decide +kernel) rfl (.inl ⟨rfl, rfl⟩) : e_Sn 9 127 (o_store e_okI 5 129)) t_9_129
noncomputable def n_9_126 : e_Y := u_push (.inl 2147483648) n_9_127
theorem t_9_126 : e_Sn 9 126 (e_un n_9_126) := u_pushT (s_iconst (n := (0)) hq_9 (by decide +kernel) rfl ⟨by decide +kernel, by decide +kernel⟩ : e_Sn 9 126 (o_push (.inl 2147483648) 127)) t_9_127
noncomputable def n_9_20 : e_Y := u_jmp y_ge (u_old2 (o_clt 23 126) 23 (u_at 23) n_9_126) (u_at 23) n_9_126
theorem t_9_20 : e_Sn 9 20 (e_un n_9_20) := u_cltT rfl (s_cge (off := (106)) hq_9 (by decide +kernel) rfl rfl : e_Sn 9 20 (o_clt 23 126)) u_atT t_9_126
noncomputable def n_9_17 : e_Y := u_getf 7 4 (u_old (o_getf (e_f1 7 4) 20) n_9_20) n_9_20
theorem t_9_17 : e_Sn 9 17 (e_un n_9_17) := u_getfT (s_getf (C := er_7) (T := et_7) (N := 6) (ref := "Plateroomprinter$Path") (index := 254) (ci := 7) (k := 4) hq_9 ho_9 ⟨rfl, by decide, ei_7, (List.mem_of_getElem? (i := 298) (by decide +kernel)), .inl rfl⟩ (by decide +kernel) rfl : e_Sn 9 17 (o_getf (e_f1 7 4) 20)) t_9_20
noncomputable def n_9_14 : e_Y := u_getf 10 1 (u_old (o_getf (e_f1 10 1) 17) n_9_17) n_9_17
theorem t_9_14 : e_Sn 9 14 (e_un n_9_14) := u_getfT (s_getf (C := er_10) (T := et_10) (N := 11) (ref := "Plateroomprinter$State") (index := 250) (ci := 10) (k := 1) hq_9 ho_9 ⟨rfl, by decide, ei_10, (List.mem_of_getElem? (i := 321) (by decide +kernel)), .inl rfl⟩ (by decide +kernel) rfl : e_Sn 9 14 (o_getf (e_f1 10 1) 17)) t_9_17
noncomputable def n_9_11 : e_Y := u_getf 11 2 (u_old (o_getf (e_f1 11 2) 14) n_9_14) n_9_14
theorem t_9_11 : e_Sn 9 11 (e_un n_9_11) := u_getfT (s_getf (C := er_11) (T := et_11) (N := 15) (ref := "Plateroomprinter$World") (index := 221) (ci := 11) (k := 2) hq_9 ho_9 ⟨rfl, by decide, ei_11, (List.mem_of_getElem? (i := 467) (by decide +kernel)), .inl rfl⟩ (by decide +kernel) rfl : e_Sn 9 11 (o_getf (e_f1 11 2) 14)) t_9_14
noncomputable def n_9_8 : e_Y := u_getf 0 1 (u_old (o_getf (e_f1 0 1) 11) n_9_11) n_9_11
theorem t_9_8 : e_Sn 9 8 (e_un n_9_8) := u_getfT (s_getf (C := er_0) (T := et_0) (N := 17) (ref := "Plateroomprinter") (index := 19) (ci := 0) (k := 1) hq_9 ho_9 ⟨rfl, by decide, ei_0, (List.mem_of_getElem? (i := 681) (by decide +kernel)), .inl rfl⟩ (by decide +kernel) rfl : e_Sn 9 8 (o_getf (e_f1 0 1) 11)) t_9_11
noncomputable def n_9_7 : e_Y := u_ld f_okA f_l0 n_9_8
theorem t_9_7 : e_Sn 9 7 (e_un n_9_7) := u_ldAT f_l0_eq (s_aload (i := .aload_n 0) (len := 1) hq_9 (by decide +kernel) rfl (.inr ⟨0, rfl, rfl, rfl⟩) : e_Sn 9 7 (o_load e_okR 0 8)) t_9_8
noncomputable def n_9_5 : e_Y := u_ld f_okI f_l5 n_9_7
theorem t_9_5 : e_Sn 9 5 (e_un n_9_5) := u_ldIT f_l5_eq (s_iload (i := .iload 5) (len := 2) hq_9 (by decide +kernel) rfl (.inl ⟨rfl, rfl⟩) : e_Sn 9 5 (o_load e_okI 5 7)) t_9_7
noncomputable def n_9_3 : e_Y := u_st f_okI f_s5 n_9_5
theorem t_9_3 : e_Sn 9 3 (e_un n_9_3) := u_stIT (fun _ _ _ => f_s5_eq) (s_istore (i := .istore 5) (len := 2) hq_9 (by decide +kernel) rfl (.inl ⟨rfl, rfl⟩) : e_Sn 9 3 (o_store e_okI 5 5)) t_9_5
noncomputable def n_9_2 : e_Y := u_push (.inl 2147483648) n_9_3
theorem t_9_2 : e_Sn 9 2 (e_un n_9_2) := u_pushT (s_iconst (n := (0)) hq_9 (by decide +kernel) rfl ⟨by decide +kernel, by decide +kernel⟩ : e_Sn 9 2 (o_push (.inl 2147483648) 3)) t_9_3
noncomputable def n_9_1 : e_Y := u_old (o_storeL 3 2) n_9_2
theorem t_9_1 : e_Sn 9 1 (e_un n_9_1) := u_oldT (s_lstore (i := .lstore_n 3) (len := 1) hq_9 (by decide +kernel) rfl (.inr ⟨3, rfl, rfl, rfl⟩) : e_Sn 9 1 (o_storeL 3 2)) t_9_2 (e_cg_storeL 3)
noncomputable def n_9_0 : e_Y := u_old (o_load e_okL 1 1) n_9_1
theorem t_9_0 : e_Sn 9 0 (e_un n_9_0) := u_oldT (s_lload (i := .lload_n 1) (len := 1) hq_9 (by decide +kernel) rfl (.inr ⟨1, rfl, rfl, rfl⟩) : e_Sn 9 0 (o_load e_okL 1 1)) t_9_1 e_congr_load
noncomputable def e_tb_9 : e_X := (e_br 129 (e_lf 0 (e_un n_9_0)) (e_br 138 (e_lf 129 (e_un n_9_129)) (e_lf 138 (e_un n_9_138))))
theorem e_tk_9 : e_Tb 9 e_tb_9 := (e_brT (e_lfT t_9_0) (e_brT (e_lfT t_9_129) (e_lfT t_9_138)))
theorem hq_12 : (e_ml[12]?).map (·.2.1) = some prog_1_method_18_code := rfl
theorem ho_12 : (e_ml[12]?).map (·.1.cls) = some "Plateroomprinter" := rfl
theorem hr_12 : (e_ml[12]?).map (·.2.2.2) = some (some .int) := rfl
noncomputable def n_12_29 : e_Y := u_retI
theorem t_12_29 : e_Sn 12 29 (e_un n_12_29) := u_retIT (s_iret hq_12 hr_12 (by decide +kernel) : e_Sn 12 29 (o_ret e_okI))
noncomputable def n_12_28 : e_Y := u_ald 0 (u_old (o_ald e_fcs 29) n_12_29) n_12_29
theorem t_12_28 : e_Sn 12 28 (e_un n_12_28) := u_aldT (s_iald hq_12 (by decide +kernel) rfl : e_Sn 12 28 (o_ald e_fcs 29)) t_12_29
noncomputable def n_12_27 : e_Y := u_ld f_okI f_l1 n_12_28
theorem t_12_27 : e_Sn 12 27 (e_un n_12_27) := u_ldIT f_l1_eq (s_iload (i := .iload_n 1) (len := 1) hq_12 (by decide +kernel) rfl (.inr ⟨1, rfl, rfl, rfl⟩) : e_Sn 12 27 (o_load e_okI 1 28)) t_12_28
noncomputable def n_12_24 : e_Y := u_getf 11 11 (u_old (o_getf (e_f1 11 11) 27) n_12_27) n_12_27
theorem t_12_24 : e_Sn 12 24 (e_un n_12_24) := u_getfT (s_getf (C := er_11) (T := et_11) (N := 15) (ref := "Plateroomprinter$World") (index := 218) (ci := 11) (k := 11) hq_12 ho_12 ⟨rfl, by decide, ei_11, (List.mem_of_getElem? (i := 493) (by decide +kernel)), .inl rfl⟩ (by decide +kernel) rfl : e_Sn 12 24 (o_getf (e_f1 11 11) 27)) t_12_27
noncomputable def n_12_21 : e_Y := u_getf 0 1 (u_old (o_getf (e_f1 0 1) 24) n_12_24) n_12_24
theorem t_12_21 : e_Sn 12 21 (e_un n_12_21) := u_getfT (s_getf (C := er_0) (T := et_0) (N := 17) (ref := "Plateroomprinter") (index := 19) (ci := 0) (k := 1) hq_12 ho_12 ⟨rfl, by decide, ei_0, (List.mem_of_getElem? (i := 681) (by decide +kernel)), .inl rfl⟩ (by decide +kernel) rfl : e_Sn 12 21 (o_getf (e_f1 0 1) 24)) t_12_24
noncomputable def n_12_20 : e_Y := u_ld f_okA f_l0 n_12_21
theorem t_12_20 : e_Sn 12 20 (e_un n_12_20) := u_ldAT f_l0_eq (s_aload (i := .aload_n 0) (len := 1) hq_12 (by decide +kernel) rfl (.inr ⟨0, rfl, rfl, rfl⟩) : e_Sn 12 20 (o_load e_okR 0 21)) t_12_21
noncomputable def n_12_10 : e_Y := u_tab (o_throw 2)
theorem t_12_10 : e_Sn 12 10 (e_un n_12_10) := u_tabT (s_throw (ik := 175) (is := 216) (ic := 179) (X := "java/lang/IndexOutOfBoundsException") (text := "no such order") hq_12 ho_12 hy_12 hc_12 rfl (by decide +kernel) e_wok2 (by simp [e_sr]) (by decide +kernel) (by decide +kernel) (.inl ⟨(by decide +kernel), (by decide +kernel), (by decide +kernel)⟩) : e_Sn 12 10 (o_throw 2))
noncomputable def n_12_7 : e_Y := u_jmp y_ge (u_old2 (o_clt 20 10) 20 n_12_20 n_12_10) n_12_20 n_12_10
theorem t_12_7 : e_Sn 12 7 (e_un n_12_7) := u_cltT rfl (s_clt (off := (13)) hq_12 (by decide +kernel) rfl rfl : e_Sn 12 7 (o_clt 20 10)) t_12_20 t_12_10
noncomputable def n_12_5 : e_Y := u_push (.inl 2147483701) n_12_7
theorem t_12_5 : e_Sn 12 5 (e_un n_12_5) := u_pushT (s_bipush (n := (53)) hq_12 (by decide +kernel) rfl ⟨by decide +kernel, by decide +kernel⟩ : e_Sn 12 5 (o_push (.inl 2147483701) 7)) t_12_7
noncomputable def n_12_4 : e_Y := u_ld f_okI f_l1 n_12_5
theorem t_12_4 : e_Sn 12 4 (e_un n_12_4) := u_ldIT f_l1_eq (s_iload (i := .iload_n 1) (len := 1) hq_12 (by decide +kernel) rfl (.inr ⟨1, rfl, rfl, rfl⟩) : e_Sn 12 4 (o_load e_okI 1 5)) t_12_5
noncomputable def n_12_1 : e_Y := u_if y_ge0 (u_old2 (o_iflt 10 4) 10 n_12_10 n_12_4) n_12_10 n_12_4
theorem t_12_1 : e_Sn 12 1 (e_un n_12_1) := u_ifltT rfl (s_iflt (off := (9)) hq_12 (by decide +kernel) rfl rfl : e_Sn 12 1 (o_iflt 10 4)) t_12_10 t_12_4
noncomputable def n_12_0 : e_Y := u_ld f_okI f_l1 n_12_1
theorem t_12_0 : e_Sn 12 0 (e_un n_12_0) := u_ldIT f_l1_eq (s_iload (i := .iload_n 1) (len := 1) hq_12 (by decide +kernel) rfl (.inr ⟨1, rfl, rfl, rfl⟩) : e_Sn 12 0 (o_load e_okI 1 1)) t_12_1
noncomputable def e_tb_12 : e_X := (e_lf 0 (e_un n_12_0))
theorem e_tk_12 : e_Tb 12 e_tb_12 := (e_lfT t_12_0)
theorem hq_16 : (e_ml[16]?).map (·.2.1) = some prog_1_method_13_code := rfl
theorem ho_16 : (e_ml[16]?).map (·.1.cls) = some "Plateroomprinter" := rfl
theorem hr_16 : (e_ml[16]?).map (·.2.2.2) = some (some .int) := rfl
noncomputable def n_16_43 : e_Y := u_tab (o_throw 0)
theorem t_16_43 : e_Sn 16 43 (e_un n_16_43) := u_tabT (s_throw (ik := 94) (is := 185) (ic := 98) (X := "java/lang/IllegalArgumentException") (text := "what is 0 to 2") hq_16 ho_16 hy_16 hc_16 rfl (by decide +kernel) e_wok0 (by simp [e_sr]) (by decide +kernel) (by decide +kernel) (.inl ⟨(by decide +kernel), (by decide +kernel), (by decide +kernel)⟩) : e_Sn 16 43 (o_throw 0))
noncomputable def n_16_42 : e_Y := u_retI
theorem t_16_42 : e_Sn 16 42 (e_un n_16_42) := u_retIT (s_iret hq_16 hr_16 (by decide +kernel) : e_Sn 16 42 (o_ret e_okI))
noncomputable def n_16_39 : e_Y := u_getf 0 16 (u_old (o_getf (e_f1 0 16) 42) n_16_42) n_16_42
theorem t_16_39 : e_Sn 16 39 (e_un n_16_39) := u_getfT (s_getf (C := er_0) (T := et_0) (N := 17) (ref := "Plateroomprinter") (index := 87) (ci := 0) (k := 16) hq_16 ho_16 ⟨rfl, by decide, ei_0, (List.mem_of_getElem? (i := 696) (by decide +kernel)), .inl rfl⟩ (by decide +kernel) rfl : e_Sn 16 39 (o_getf (e_f1 0 16) 42)) t_16_42
noncomputable def n_16_38 : e_Y := u_ld f_okA f_l0 n_16_39
theorem t_16_38 : e_Sn 16 38 (e_un n_16_38) := u_ldAT f_l0_eq (s_aload (i := .aload_n 0) (len := 1) hq_16 (by decide +kernel) rfl (.inr ⟨0, rfl, rfl, rfl⟩) : e_Sn 16 38 (o_load e_okR 0 39)) t_16_39
noncomputable def n_16_37 : e_Y := u_retI
theorem t_16_37 : e_Sn 16 37 (e_un n_16_37) := u_retIT (s_iret hq_16 hr_16 (by decide +kernel) : e_Sn 16 37 (o_ret e_okI))
noncomputable def n_16_34 : e_Y := u_getf 0 15 (u_old (o_getf (e_f1 0 15) 37) n_16_37) n_16_37
theorem t_16_34 : e_Sn 16 34 (e_un n_16_34) := u_getfT (s_getf (C := er_0) (T := et_0) (N := 17) (ref := "Plateroomprinter") (index := 84) (ci := 0) (k := 15) hq_16 ho_16 ⟨rfl, by decide, ei_0, (List.mem_of_getElem? (i := 695) (by decide +kernel)), .inl rfl⟩ (by decide +kernel) rfl : e_Sn 16 34 (o_getf (e_f1 0 15) 37)) t_16_37
noncomputable def n_16_33 : e_Y := u_ld f_okA f_l0 n_16_34
theorem t_16_33 : e_Sn 16 33 (e_un n_16_33) := u_ldAT f_l0_eq (s_aload (i := .aload_n 0) (len := 1) hq_16 (by decide +kernel) rfl (.inr ⟨0, rfl, rfl, rfl⟩) : e_Sn 16 33 (o_load e_okR 0 34)) t_16_34
noncomputable def n_16_32 : e_Y := u_retI
theorem t_16_32 : e_Sn 16 32 (e_un n_16_32) := u_retIT (s_iret hq_16 hr_16 (by decide +kernel) : e_Sn 16 32 (o_ret e_okI))
noncomputable def n_16_29 : e_Y := u_getf 0 14 (u_old (o_getf (e_f1 0 14) 32) n_16_32) n_16_32
theorem t_16_29 : e_Sn 16 29 (e_un n_16_29) := u_getfT (s_getf (C := er_0) (T := et_0) (N := 17) (ref := "Plateroomprinter") (index := 81) (ci := 0) (k := 14) hq_16 ho_16 ⟨rfl, by decide, ei_0, (List.mem_of_getElem? (i := 694) (by decide +kernel)), .inl rfl⟩ (by decide +kernel) rfl : e_Sn 16 29 (o_getf (e_f1 0 14) 32)) t_16_32
noncomputable def n_16_28 : e_Y := u_ld f_okA f_l0 n_16_29
theorem t_16_28 : e_Sn 16 28 (e_un n_16_28) := u_ldAT f_l0_eq (s_aload (i := .aload_n 0) (len := 1) hq_16 (by decide +kernel) rfl (.inr ⟨0, rfl, rfl, rfl⟩) : e_Sn 16 28 (o_load e_okR 0 29)) t_16_29
noncomputable def n_16_1 : e_Y := u_tab (o_switch 2147483648 [28, 33, 38] 43)
theorem t_16_1 : e_Sn 16 1 (e_un n_16_1) := u_tabT (s_switch (dflt := (42)) (low := (0)) (hi := (2)) (offs := #[(27), (32), (37)]) (len := 27) hq_16 (by decide +kernel) rfl rfl rfl rfl : e_Sn 16 1 (o_switch 2147483648 [28, 33, 38] 43))
noncomputable def n_16_0 : e_Y := u_ld f_okI f_l1 n_16_1
theorem t_16_0 : e_Sn 16 0 (e_un n_16_0) := u_ldIT f_l1_eq (s_iload (i := .iload_n 1) (len := 1) hq_16 (by decide +kernel) rfl (.inr ⟨1, rfl, rfl, rfl⟩) : e_Sn 16 0 (o_load e_okI 1 1)) t_16_1
noncomputable def e_tb_16 : e_X := (e_br 33 (e_br 28 (e_lf 0 (e_un n_16_0)) (e_lf 28 (e_un n_16_28))) (e_br 38 (e_lf 33 (e_un n_16_33)) (e_br 43 (e_lf 38 (e_un n_16_38)) (e_lf 43 (e_un n_16_43)))))
theorem e_tk_16 : e_Tb 16 e_tb_16 := (e_brT (e_brT (e_lfT t_16_0) (e_lfT t_16_28)) (e_brT (e_lfT t_16_33) (e_brT (e_lfT t_16_38) (e_lfT t_16_43))))
theorem hq_32 : (e_ml[32]?).map (·.2.1) = some prog_1_method_14_code := rfl
theorem ho_32 : (e_ml[32]?).map (·.1.cls) = some "Plateroomprinter" := rfl
theorem hr_32 : (e_ml[32]?).map (·.2.2.2) = some (some .int) := rfl
noncomputable def n_32_10 : e_Y := u_retI
theorem t_32_10 : e_Sn 32 10 (e_un n_32_10) := u_retIT (s_iret hq_32 hr_32 (by decide +kernel) : e_Sn 32 10 (o_ret e_okI))
noncomputable def n_32_7 : e_Y := u_getf 4 4 (u_old (o_getf (e_f1 4 4) 10) n_32_10) n_32_10
theorem t_32_7 : e_Sn 32 7 (e_un n_32_7) := u_getfT (s_getf (C := er_4) (T := et_4) (N := 5) (ref := "Plateroomprinter$Items") (index := 191) (ci := 4) (k := 4) hq_32 ho_32 ⟨rfl, by decide, ei_4, (List.mem_of_getElem? (i := 237) (by decide +kernel)), .inl rfl⟩ (by decide +kernel) rfl : e_Sn 32 7 (o_getf (e_f1 4 4) 10)) t_32_10
noncomputable def n_32_4 : e_Y := u_getf 11 0 (u_old (o_getf (e_f1 11 0) 7) n_32_7) n_32_7
theorem t_32_4 : e_Sn 32 4 (e_un n_32_4) := u_getfT (s_getf (C := er_11) (T := et_11) (N := 15) (ref := "Plateroomprinter$World") (index := 187) (ci := 11) (k := 0) hq_32 ho_32 ⟨rfl, by decide, ei_11, (List.mem_of_getElem? (i := 461) (by decide +kernel)), .inl rfl⟩ (by decide +kernel) rfl : e_Sn 32 4 (o_getf (e_f1 11 0) 7)) t_32_7
noncomputable def n_32_1 : e_Y := u_getf 0 1 (u_old (o_getf (e_f1 0 1) 4) n_32_4) n_32_4
theorem t_32_1 : e_Sn 32 1 (e_un n_32_1) := u_getfT (s_getf (C := er_0) (T := et_0) (N := 17) (ref := "Plateroomprinter") (index := 19) (ci := 0) (k := 1) hq_32 ho_32 ⟨rfl, by decide, ei_0, (List.mem_of_getElem? (i := 681) (by decide +kernel)), .inl rfl⟩ (by decide +kernel) rfl : e_Sn 32 1 (o_getf (e_f1 0 1) 4)) t_32_4
noncomputable def n_32_0 : e_Y := u_ld f_okA f_l0 n_32_1
theorem t_32_0 : e_Sn 32 0 (e_un n_32_0) := u_ldAT f_l0_eq (s_aload (i := .aload_n 0) (len := 1) hq_32 (by decide +kernel) rfl (.inr ⟨0, rfl, rfl, rfl⟩) : e_Sn 32 0 (o_load e_okR 0 1)) t_32_1
noncomputable def e_tb_32 : e_X := (e_lf 0 (e_un n_32_0))
theorem e_tk_32 : e_Tb 32 e_tb_32 := (e_lfT t_32_0)
theorem hq_73 : (e_ml[73]?).map (·.2.1) = some prog_5_method_5_code := rfl
theorem ho_73 : (e_ml[73]?).map (·.1.cls) = some "Plateroomprinter$Items" := rfl
theorem hr_73 : (e_ml[73]?).map (·.2.2.2) = some (some .int) := rfl
noncomputable def n_73_22 : e_Y := u_retI
theorem t_73_22 : e_Sn 73 22 (e_un n_73_22) := u_retIT (s_iret hq_73 hr_73 (by decide +kernel) : e_Sn 73 22 (o_ret e_okI))
noncomputable def n_73_18 : e_Y := n_73_22
theorem t_73_18 : e_Sn 73 18 (e_un n_73_18) := u_gotoT (s_goto (off := (4)) hq_73 (by decide +kernel) rfl : e_Sn 73 18 (o_goto 22)) t_73_22
noncomputable def n_73_17 : e_Y := u_ald 0 (u_old (o_ald e_fcs 18) n_73_18) n_73_18
theorem t_73_17 : e_Sn 73 17 (e_un n_73_17) := u_aldT (s_iald hq_73 (by decide +kernel) rfl : e_Sn 73 17 (o_ald e_fcs 18)) t_73_18
noncomputable def n_73_16 : e_Y := u_ld f_okI f_l1 n_73_17
theorem t_73_16 : e_Sn 73 16 (e_un n_73_16) := u_ldIT f_l1_eq (s_iload (i := .iload_n 1) (len := 1) hq_73 (by decide +kernel) rfl (.inr ⟨1, rfl, rfl, rfl⟩) : e_Sn 73 16 (o_load e_okI 1 17)) t_73_17
noncomputable def n_73_13 : e_Y := u_getf 4 1 (u_old (o_getf (e_f1 4 1) 16) n_73_16) n_73_16
theorem t_73_13 : e_Sn 73 13 (e_un n_73_13) := u_getfT (s_getf (C := er_4) (T := et_4) (N := 5) (ref := "Plateroomprinter$Items") (index := 21) (ci := 4) (k := 1) hq_73 ho_73 ⟨rfl, by decide, ei_4, (List.mem_of_getElem? (i := 232) (by decide +kernel)), .inl rfl⟩ (by decide +kernel) rfl : e_Sn 73 13 (o_getf (e_f1 4 1) 16)) t_73_16
noncomputable def n_73_12 : e_Y := u_ld f_okA f_l0 n_73_13
theorem t_73_12 : e_Sn 73 12 (e_un n_73_12) := u_ldAT f_l0_eq (s_aload (i := .aload_n 0) (len := 1) hq_73 (by decide +kernel) rfl (.inr ⟨0, rfl, rfl, rfl⟩) : e_Sn 73 12 (o_load e_okR 0 13)) t_73_13
noncomputable def n_73_9 : e_Y := u_jmp y_ge (u_old2 (o_clt 12 21) 12 n_73_12 (u_at 21)) n_73_12 (u_at 21)
theorem t_73_9 : e_Sn 73 9 (e_un n_73_9) := u_cltT rfl (s_cge (off := (12)) hq_73 (by decide +kernel) rfl rfl : e_Sn 73 9 (o_clt 12 21)) t_73_12 u_atT
noncomputable def n_73_6 : e_Y := u_getf 4 0 (u_old (o_getf (e_f1 4 0) 9) n_73_9) n_73_9
theorem t_73_6 : e_Sn 73 6 (e_un n_73_6) := u_getfT (s_getf (C := er_4) (T := et_4) (N := 5) (ref := "Plateroomprinter$Items") (index := 15) (ci := 4) (k := 0) hq_73 ho_73 ⟨rfl, by decide, ei_4, (List.mem_of_getElem? (i := 231) (by decide +kernel)), .inl rfl⟩ (by decide +kernel) rfl : e_Sn 73 6 (o_getf (e_f1 4 0) 9)) t_73_9
noncomputable def n_73_5 : e_Y := u_ld f_okA f_l0 n_73_6
theorem t_73_5 : e_Sn 73 5 (e_un n_73_5) := u_ldAT f_l0_eq (s_aload (i := .aload_n 0) (len := 1) hq_73 (by decide +kernel) rfl (.inr ⟨0, rfl, rfl, rfl⟩) : e_Sn 73 5 (o_load e_okR 0 6)) t_73_6
noncomputable def n_73_4 : e_Y := u_ld f_okI f_l1 n_73_5
theorem t_73_4 : e_Sn 73 4 (e_un n_73_4) := u_ldIT f_l1_eq (s_iload (i := .iload_n 1) (len := 1) hq_73 (by decide +kernel) rfl (.inr ⟨1, rfl, rfl, rfl⟩) : e_Sn 73 4 (o_load e_okI 1 5)) t_73_5
noncomputable def n_73_1 : e_Y := u_if y_ge0 (u_old2 (o_iflt 21 4) 21 (u_at 21) n_73_4) (u_at 21) n_73_4
theorem t_73_1 : e_Sn 73 1 (e_un n_73_1) := u_ifltT rfl (s_iflt (off := (20)) hq_73 (by decide +kernel) rfl rfl : e_Sn 73 1 (o_iflt 21 4)) u_atT t_73_4
noncomputable def n_73_0 : e_Y := u_ld f_okI f_l1 n_73_1
theorem t_73_0 : e_Sn 73 0 (e_un n_73_0) := u_ldIT f_l1_eq (s_iload (i := .iload_n 1) (len := 1) hq_73 (by decide +kernel) rfl (.inr ⟨1, rfl, rfl, rfl⟩) : e_Sn 73 0 (o_load e_okI 1 1)) t_73_1
noncomputable def e_tb_73 : e_X := (e_lf 0 (e_un n_73_0))
theorem e_tk_73 : e_Tb 73 e_tb_73 := (e_lfT t_73_0)
theorem hq_75 : (e_ml[75]?).map (·.2.1) = some prog_5_method_6_code := rfl
theorem ho_75 : (e_ml[75]?).map (·.1.cls) = some "Plateroomprinter$Items" := rfl
theorem hr_75 : (e_ml[75]?).map (·.2.2.2) = some (some .int) := rfl
noncomputable def n_75_22 : e_Y := u_retI
theorem t_75_22 : e_Sn 75 22 (e_un n_75_22) := u_retIT (s_iret hq_75 hr_75 (by decide +kernel) : e_Sn 75 22 (o_ret e_okI))
noncomputable def n_75_18 : e_Y := n_75_22
theorem t_75_18 : e_Sn 75 18 (e_un n_75_18) := u_gotoT (s_goto (off := (4)) hq_75 (by decide +kernel) rfl : e_Sn 75 18 (o_goto 22)) t_75_22
noncomputable def n_75_17 : e_Y := u_ald 0 (u_old (o_ald e_fcs 18) n_75_18) n_75_18
theorem t_75_17 : e_Sn 75 17 (e_un n_75_17) := u_aldT (s_iald hq_75 (by decide +kernel) rfl : e_Sn 75 17 (o_ald e_fcs 18)) t_75_18
noncomputable def n_75_16 : e_Y := u_ld f_okI f_l1 n_75_17
theorem t_75_16 : e_Sn 75 16 (e_un n_75_16) := u_ldIT f_l1_eq (s_iload (i := .iload_n 1) (len := 1) hq_75 (by decide +kernel) rfl (.inr ⟨1, rfl, rfl, rfl⟩) : e_Sn 75 16 (o_load e_okI 1 17)) t_75_17
noncomputable def n_75_13 : e_Y := u_getf 4 2 (u_old (o_getf (e_f1 4 2) 16) n_75_16) n_75_16
theorem t_75_13 : e_Sn 75 13 (e_un n_75_13) := u_getfT (s_getf (C := er_4) (T := et_4) (N := 5) (ref := "Plateroomprinter$Items") (index := 25) (ci := 4) (k := 2) hq_75 ho_75 ⟨rfl, by decide, ei_4, (List.mem_of_getElem? (i := 233) (by decide +kernel)), .inl rfl⟩ (by decide +kernel) rfl : e_Sn 75 13 (o_getf (e_f1 4 2) 16)) t_75_16
noncomputable def n_75_12 : e_Y := u_ld f_okA f_l0 n_75_13
theorem t_75_12 : e_Sn 75 12 (e_un n_75_12) := u_ldAT f_l0_eq (s_aload (i := .aload_n 0) (len := 1) hq_75 (by decide +kernel) rfl (.inr ⟨0, rfl, rfl, rfl⟩) : e_Sn 75 12 (o_load e_okR 0 13)) t_75_13
noncomputable def n_75_9 : e_Y := u_jmp y_ge (u_old2 (o_clt 12 21) 12 n_75_12 (u_at 21)) n_75_12 (u_at 21)
theorem t_75_9 : e_Sn 75 9 (e_un n_75_9) := u_cltT rfl (s_cge (off := (12)) hq_75 (by decide +kernel) rfl rfl : e_Sn 75 9 (o_clt 12 21)) t_75_12 u_atT
noncomputable def n_75_6 : e_Y := u_getf 4 0 (u_old (o_getf (e_f1 4 0) 9) n_75_9) n_75_9
theorem t_75_6 : e_Sn 75 6 (e_un n_75_6) := u_getfT (s_getf (C := er_4) (T := et_4) (N := 5) (ref := "Plateroomprinter$Items") (index := 15) (ci := 4) (k := 0) hq_75 ho_75 ⟨rfl, by decide, ei_4, (List.mem_of_getElem? (i := 231) (by decide +kernel)), .inl rfl⟩ (by decide +kernel) rfl : e_Sn 75 6 (o_getf (e_f1 4 0) 9)) t_75_9
noncomputable def n_75_5 : e_Y := u_ld f_okA f_l0 n_75_6
theorem t_75_5 : e_Sn 75 5 (e_un n_75_5) := u_ldAT f_l0_eq (s_aload (i := .aload_n 0) (len := 1) hq_75 (by decide +kernel) rfl (.inr ⟨0, rfl, rfl, rfl⟩) : e_Sn 75 5 (o_load e_okR 0 6)) t_75_6
noncomputable def n_75_4 : e_Y := u_ld f_okI f_l1 n_75_5
theorem t_75_4 : e_Sn 75 4 (e_un n_75_4) := u_ldIT f_l1_eq (s_iload (i := .iload_n 1) (len := 1) hq_75 (by decide +kernel) rfl (.inr ⟨1, rfl, rfl, rfl⟩) : e_Sn 75 4 (o_load e_okI 1 5)) t_75_5
noncomputable def n_75_1 : e_Y := u_if y_ge0 (u_old2 (o_iflt 21 4) 21 (u_at 21) n_75_4) (u_at 21) n_75_4
theorem t_75_1 : e_Sn 75 1 (e_un n_75_1) := u_ifltT rfl (s_iflt (off := (20)) hq_75 (by decide +kernel) rfl rfl : e_Sn 75 1 (o_iflt 21 4)) u_atT t_75_4
noncomputable def n_75_0 : e_Y := u_ld f_okI f_l1 n_75_1
theorem t_75_0 : e_Sn 75 0 (e_un n_75_0) := u_ldIT f_l1_eq (s_iload (i := .iload_n 1) (len := 1) hq_75 (by decide +kernel) rfl (.inr ⟨1, rfl, rfl, rfl⟩) : e_Sn 75 0 (o_load e_okI 1 1)) t_75_1
noncomputable def e_tb_75 : e_X := (e_lf 0 (e_un n_75_0))
theorem e_tk_75 : e_Tb 75 e_tb_75 := (e_lfT t_75_0)
theorem hq_74 : (e_ml[74]?).map (·.2.1) = some prog_5_method_8_code := rfl
theorem ho_74 : (e_ml[74]?).map (·.1.cls) = some "Plateroomprinter$Items" := rfl
theorem hr_74 : (e_ml[74]?).map (·.2.2.2) = some (some .int) := rfl
noncomputable def n_74_22 : e_Y := u_retI
theorem t_74_22 : e_Sn 74 22 (e_un n_74_22) := u_retIT (s_iret hq_74 hr_74 (by decide +kernel) : e_Sn 74 22 (o_ret e_okI))
noncomputable def n_74_19 : e_Y := u_callV 4 75 2 21 2 n_75_0 n_74_22
theorem t_74_19 : e_Sn 74 19 (e_un n_74_19) := u_callVT rfl (s_callV (ci := 4) (C := er_4) (T := et_4) (N := 5) (index := 48) hq_74 ho_74 hy_75 hp_75 hc_75 hi_75 hd_75 (List.mem_of_getElem? (i := 1476) (by decide +kernel)) hs_75 (List.mem_of_getElem? (i := 835) (by decide +kernel)) rfl (by decide +kernel) rfl : e_Sn 74 19 (o_callV (e_s1 4 75 2) 2 22)) t_75_0 t_74_22
noncomputable def n_74_18 : e_Y := u_ld f_okI f_l1 n_74_19
theorem t_74_18 : e_Sn 74 18 (e_un n_74_18) := u_ldIT f_l1_eq (s_iload (i := .iload_n 1) (len := 1) hq_74 (by decide +kernel) rfl (.inr ⟨1, rfl, rfl, rfl⟩) : e_Sn 74 18 (o_load e_okI 1 19)) t_74_19
noncomputable def n_74_17 : e_Y := u_ld f_okA f_l0 n_74_18
theorem t_74_17 : e_Sn 74 17 (e_un n_74_17) := u_ldAT f_l0_eq (s_aload (i := .aload_n 0) (len := 1) hq_74 (by decide +kernel) rfl (.inr ⟨0, rfl, rfl, rfl⟩) : e_Sn 74 17 (o_load e_okR 0 18)) t_74_18
noncomputable def n_74_6 : e_Y := u_jmp y_ne (u_old2 (o_ceq 9 17) 9 (u_at 9) n_74_17) (u_at 9) n_74_17
theorem t_74_6 : e_Sn 74 6 (e_un n_74_6) := u_ceqT rfl (s_cne (off := (11)) hq_74 (by decide +kernel) rfl rfl : e_Sn 74 6 (o_ceq 9 17)) u_atT t_74_17
noncomputable def n_74_5 : e_Y := u_push (.inl 2147483650) n_74_6
theorem t_74_5 : e_Sn 74 5 (e_un n_74_5) := u_pushT (s_iconst (n := (2)) hq_74 (by decide +kernel) rfl ⟨by decide +kernel, by decide +kernel⟩ : e_Sn 74 5 (o_push (.inl 2147483650) 6)) t_74_6
noncomputable def n_74_2 : e_Y := u_callV 4 73 2 21 2 n_73_0 n_74_5
theorem t_74_2 : e_Sn 74 2 (e_un n_74_2) := u_callVT rfl (s_callV (ci := 4) (C := er_4) (T := et_4) (N := 5) (index := 41) hq_74 ho_74 hy_73 hp_73 hc_73 hi_73 hd_73 (List.mem_of_getElem? (i := 1474) (by decide +kernel)) hs_73 (List.mem_of_getElem? (i := 831) (by decide +kernel)) rfl (by decide +kernel) rfl : e_Sn 74 2 (o_callV (e_s1 4 73 2) 2 5)) t_73_0 t_74_5
noncomputable def n_74_1 : e_Y := u_ld f_okI f_l1 n_74_2
theorem t_74_1 : e_Sn 74 1 (e_un n_74_1) := u_ldIT f_l1_eq (s_iload (i := .iload_n 1) (len := 1) hq_74 (by decide +kernel) rfl (.inr ⟨1, rfl, rfl, rfl⟩) : e_Sn 74 1 (o_load e_okI 1 2)) t_74_2
noncomputable def n_74_0 : e_Y := u_ld f_okA f_l0 n_74_1
theorem t_74_0 : e_Sn 74 0 (e_un n_74_0) := u_ldAT f_l0_eq (s_aload (i := .aload_n 0) (len := 1) hq_74 (by decide +kernel) rfl (.inr ⟨0, rfl, rfl, rfl⟩) : e_Sn 74 0 (o_load e_okR 0 1)) t_74_1
noncomputable def e_tb_74 : e_X := (e_lf 0 (e_un n_74_0))
theorem e_tk_74 : e_Tb 74 e_tb_74 := (e_lfT t_74_0)
theorem hq_40 : (e_ml[40]?).map (·.2.1) = some prog_1_method_16_code := rfl
theorem ho_40 : (e_ml[40]?).map (·.1.cls) = some "Plateroomprinter" := rfl
theorem hr_40 : (e_ml[40]?).map (·.2.2.2) = some (some .int) := rfl
noncomputable def n_40_68 : e_Y := u_retI
theorem t_40_68 : e_Sn 40 68 (e_un n_40_68) := u_retIT (s_iret hq_40 hr_40 (by decide +kernel) : e_Sn 40 68 (o_ret e_okI))
noncomputable def n_40_65 : e_Y := u_callV 4 74 2 21 2 n_74_0 n_40_68
theorem t_40_65 : e_Sn 40 65 (e_un n_40_65) := u_callVT rfl (s_callV (ci := 4) (C := er_4) (T := et_4) (N := 5) (index := 199) hq_40 ho_40 hy_74 hp_74 hc_74 hi_74 hd_74 (List.mem_of_getElem? (i := 1470) (by decide +kernel)) hs_74 (List.mem_of_getElem? (i := 1472) (by decide +kernel)) rfl (by decide +kernel) rfl : e_Sn 40 65 (o_callV (e_s1 4 74 2) 2 68)) t_74_0 t_40_68
noncomputable def n_40_64 : e_Y := u_ld f_okI f_l1 n_40_65
theorem t_40_64 : e_Sn 40 64 (e_un n_40_64) := u_ldIT f_l1_eq (s_iload (i := .iload_n 1) (len := 1) hq_40 (by decide +kernel) rfl (.inr ⟨1, rfl, rfl, rfl⟩) : e_Sn 40 64 (o_load e_okI 1 65)) t_40_65
noncomputable def n_40_61 : e_Y := u_getf 11 1 (u_old (o_getf (e_f1 11 1) 64) n_40_64) n_40_64
theorem t_40_61 : e_Sn 40 61 (e_un n_40_61) := u_getfT (s_getf (C := er_11) (T := et_11) (N := 15) (ref := "Plateroomprinter$World") (index := 204) (ci := 11) (k := 1) hq_40 ho_40 ⟨rfl, by decide, ei_11, (List.mem_of_getElem? (i := 464) (by decide +kernel)), .inl rfl⟩ (by decide +kernel) rfl : e_Sn 40 61 (o_getf (e_f1 11 1) 64)) t_40_64
noncomputable def n_40_58 : e_Y := u_getf 0 1 (u_old (o_getf (e_f1 0 1) 61) n_40_61) n_40_61
theorem t_40_58 : e_Sn 40 58 (e_un n_40_58) := u_getfT (s_getf (C := er_0) (T := et_0) (N := 17) (ref := "Plateroomprinter") (index := 19) (ci := 0) (k := 1) hq_40 ho_40 ⟨rfl, by decide, ei_0, (List.mem_of_getElem? (i := 681) (by decide +kernel)), .inl rfl⟩ (by decide +kernel) rfl : e_Sn 40 58 (o_getf (e_f1 0 1) 61)) t_40_61
noncomputable def n_40_57 : e_Y := u_ld f_okA f_l0 n_40_58
theorem t_40_57 : e_Sn 40 57 (e_un n_40_57) := u_ldAT f_l0_eq (s_aload (i := .aload_n 0) (len := 1) hq_40 (by decide +kernel) rfl (.inr ⟨0, rfl, rfl, rfl⟩) : e_Sn 40 57 (o_load e_okR 0 58)) t_40_58
noncomputable def n_40_54 : e_Y := n_40_68
theorem t_40_54 : e_Sn 40 54 (e_un n_40_54) := u_gotoT (s_goto (off := (14)) hq_40 (by decide +kernel) rfl : e_Sn 40 54 (o_goto 68)) t_40_68
noncomputable def n_40_51 : e_Y := u_callV 4 73 2 21 2 n_73_0 n_40_54
theorem t_40_51 : e_Sn 40 51 (e_un n_40_51) := u_callVT rfl (s_callV (ci := 4) (C := er_4) (T := et_4) (N := 5) (index := 196) hq_40 ho_40 hy_73 hp_73 hc_73 hi_73 hd_73 (List.mem_of_getElem? (i := 1469) (by decide +kernel)) hs_73 (List.mem_of_getElem? (i := 831) (by decide +kernel)) rfl (by decide +kernel) rfl : e_Sn 40 51 (o_callV (e_s1 4 73 2) 2 54)) t_73_0 t_40_54
noncomputable def n_40_50 : e_Y := u_ld f_okI f_l1 n_40_51
theorem t_40_50 : e_Sn 40 50 (e_un n_40_50) := u_ldIT f_l1_eq (s_iload (i := .iload_n 1) (len := 1) hq_40 (by decide +kernel) rfl (.inr ⟨1, rfl, rfl, rfl⟩) : e_Sn 40 50 (o_load e_okI 1 51)) t_40_51
noncomputable def n_40_47 : e_Y := u_getf 11 1 (u_old (o_getf (e_f1 11 1) 50) n_40_50) n_40_50
theorem t_40_47 : e_Sn 40 47 (e_un n_40_47) := u_getfT (s_getf (C := er_11) (T := et_11) (N := 15) (ref := "Plateroomprinter$World") (index := 204) (ci := 11) (k := 1) hq_40 ho_40 ⟨rfl, by decide, ei_11, (List.mem_of_getElem? (i := 464) (by decide +kernel)), .inl rfl⟩ (by decide +kernel) rfl : e_Sn 40 47 (o_getf (e_f1 11 1) 50)) t_40_50
noncomputable def n_40_44 : e_Y := u_getf 0 1 (u_old (o_getf (e_f1 0 1) 47) n_40_47) n_40_47
theorem t_40_44 : e_Sn 40 44 (e_un n_40_44) := u_getfT (s_getf (C := er_0) (T := et_0) (N := 17) (ref := "Plateroomprinter") (index := 19) (ci := 0) (k := 1) hq_40 ho_40 ⟨rfl, by decide, ei_0, (List.mem_of_getElem? (i := 681) (by decide +kernel)), .inl rfl⟩ (by decide +kernel) rfl : e_Sn 40 44 (o_getf (e_f1 0 1) 47)) t_40_47
noncomputable def n_40_43 : e_Y := u_ld f_okA f_l0 n_40_44
theorem t_40_43 : e_Sn 40 43 (e_un n_40_43) := u_ldAT f_l0_eq (s_aload (i := .aload_n 0) (len := 1) hq_40 (by decide +kernel) rfl (.inr ⟨0, rfl, rfl, rfl⟩) : e_Sn 40 43 (o_load e_okR 0 44)) t_40_44
noncomputable def n_40_40 : e_Y := u_if y_ne0 (u_old2 (o_ifeq 43 57) 43 n_40_43 n_40_57) n_40_43 n_40_57
theorem t_40_40 : e_Sn 40 40 (e_un n_40_40) := u_ifeqT rfl (s_ifne (off := (17)) hq_40 (by decide +kernel) rfl rfl : e_Sn 40 40 (o_ifeq 43 57)) t_40_43 t_40_57
noncomputable def n_40_39 : e_Y := u_ld f_okI f_l2 n_40_40
theorem t_40_39 : e_Sn 40 39 (e_un n_40_39) := u_ldIT f_l2_eq (s_iload (i := .iload_n 2) (len := 1) hq_40 (by decide +kernel) rfl (.inr ⟨2, rfl, rfl, rfl⟩) : e_Sn 40 39 (o_load e_okI 2 40)) t_40_40
noncomputable def n_40_29 : e_Y := u_tab (o_throw 0)
theorem t_40_29 : e_Sn 40 29 (e_un n_40_29) := u_tabT (s_throw (ik := 94) (is := 180) (ic := 98) (X := "java/lang/IllegalArgumentException") (text := "what is 0 or 1") hq_40 ho_40 hy_40 hc_40 rfl (by decide +kernel) e_wok0 (by simp [e_sr]) (by decide +kernel) (by decide +kernel) (.inl ⟨(by decide +kernel), (by decide +kernel), (by decide +kernel)⟩) : e_Sn 40 29 (o_throw 0))
noncomputable def n_40_26 : e_Y := u_jmp y_le (u_old2 (o_cgt 29 39) 29 n_40_29 n_40_39) n_40_29 n_40_39
theorem t_40_26 : e_Sn 40 26 (e_un n_40_26) := u_cgtT rfl (s_cle (off := (13)) hq_40 (by decide +kernel) rfl rfl : e_Sn 40 26 (o_cgt 29 39)) t_40_29 t_40_39
noncomputable def n_40_25 : e_Y := u_push (.inl 2147483649) n_40_26
theorem t_40_25 : e_Sn 40 25 (e_un n_40_25) := u_pushT (s_iconst (n := (1)) hq_40 (by decide +kernel) rfl ⟨by decide +kernel, by decide +kernel⟩ : e_Sn 40 25 (o_push (.inl 2147483649) 26)) t_40_26
noncomputable def n_40_24 : e_Y := u_ld f_okI f_l2 n_40_25
theorem t_40_24 : e_Sn 40 24 (e_un n_40_24) := u_ldIT f_l2_eq (s_iload (i := .iload_n 2) (len := 1) hq_40 (by decide +kernel) rfl (.inr ⟨2, rfl, rfl, rfl⟩) : e_Sn 40 24 (o_load e_okI 2 25)) t_40_25
noncomputable def n_40_21 : e_Y := u_if y_ge0 (u_old2 (o_iflt 29 24) 29 n_40_29 n_40_24) n_40_29 n_40_24
theorem t_40_21 : e_Sn 40 21 (e_un n_40_21) := u_ifltT rfl (s_iflt (off := (8)) hq_40 (by decide +kernel) rfl rfl : e_Sn 40 21 (o_iflt 29 24)) t_40_29 t_40_24
noncomputable def n_40_20 : e_Y := u_ld f_okI f_l2 n_40_21
theorem t_40_20 : e_Sn 40 20 (e_un n_40_20) := u_ldIT f_l2_eq (s_iload (i := .iload_n 2) (len := 1) hq_40 (by decide +kernel) rfl (.inr ⟨2, rfl, rfl, rfl⟩) : e_Sn 40 20 (o_load e_okI 2 21)) t_40_21
noncomputable def n_40_10 : e_Y := u_tab (o_throw 2)
theorem t_40_10 : e_Sn 40 10 (e_un n_40_10) := u_tabT (s_throw (ik := 175) (is := 202) (ic := 179) (X := "java/lang/IndexOutOfBoundsException") (text := "no such name") hq_40 ho_40 hy_40 hc_40 rfl (by decide +kernel) e_wok2 (by simp [e_sr]) (by decide +kernel) (by decide +kernel) (.inl ⟨(by decide +kernel), (by decide +kernel), (by decide +kernel)⟩) : e_Sn 40 10 (o_throw 2))
noncomputable def n_40_7 : e_Y := u_jmp y_ge (u_old2 (o_clt 20 10) 20 n_40_20 n_40_10) n_40_20 n_40_10
theorem t_40_7 : e_Sn 40 7 (e_un n_40_7) := u_cltT rfl (s_clt (off := (13)) hq_40 (by decide +kernel) rfl rfl : e_Sn 40 7 (o_clt 20 10)) t_40_20 t_40_10
noncomputable def n_40_5 : e_Y := u_push (.inl 2147483658) n_40_7
theorem t_40_5 : e_Sn 40 5 (e_un n_40_5) := u_pushT (s_bipush (n := (10)) hq_40 (by decide +kernel) rfl ⟨by decide +kernel, by decide +kernel⟩ : e_Sn 40 5 (o_push (.inl 2147483658) 7)) t_40_7
noncomputable def n_40_4 : e_Y := u_ld f_okI f_l1 n_40_5
theorem t_40_4 : e_Sn 40 4 (e_un n_40_4) := u_ldIT f_l1_eq (s_iload (i := .iload_n 1) (len := 1) hq_40 (by decide +kernel) rfl (.inr ⟨1, rfl, rfl, rfl⟩) : e_Sn 40 4 (o_load e_okI 1 5)) t_40_5
noncomputable def n_40_1 : e_Y := u_if y_ge0 (u_old2 (o_iflt 10 4) 10 n_40_10 n_40_4) n_40_10 n_40_4
theorem t_40_1 : e_Sn 40 1 (e_un n_40_1) := u_ifltT rfl (s_iflt (off := (9)) hq_40 (by decide +kernel) rfl rfl : e_Sn 40 1 (o_iflt 10 4)) t_40_10 t_40_4
noncomputable def n_40_0 : e_Y := u_ld f_okI f_l1 n_40_1
theorem t_40_0 : e_Sn 40 0 (e_un n_40_0) := u_ldIT f_l1_eq (s_iload (i := .iload_n 1) (len := 1) hq_40 (by decide +kernel) rfl (.inr ⟨1, rfl, rfl, rfl⟩) : e_Sn 40 0 (o_load e_okI 1 1)) t_40_1
noncomputable def e_tb_40 : e_X := (e_lf 0 (e_un n_40_0))
theorem e_tk_40 : e_Tb 40 e_tb_40 := (e_lfT t_40_0)
theorem hq_56 : (e_ml[56]?).map (·.2.1) = some prog_1_method_11_code := rfl
theorem ho_56 : (e_ml[56]?).map (·.1.cls) = some "Plateroomprinter" := rfl
theorem hr_56 : (e_ml[56]?).map (·.2.2.2) = some (some .int) := rfl
noncomputable def n_56_7 : e_Y := u_retI
theorem t_56_7 : e_Sn 56 7 (e_un n_56_7) := u_retIT (s_iret hq_56 hr_56 (by decide +kernel) : e_Sn 56 7 (o_ret e_okI))
noncomputable def n_56_4 : e_Y := u_getf 1 3 (u_old (o_getf (e_f1 1 3) 7) n_56_7) n_56_7
theorem t_56_4 : e_Sn 56 4 (e_un n_56_4) := u_getfT (s_getf (C := er_1) (T := et_1) (N := 4) (ref := "Plateroomprinter$Code") (index := 101) (ci := 1) (k := 3) hq_56 ho_56 ⟨rfl, by decide, ei_1, (List.mem_of_getElem? (i := 204) (by decide +kernel)), .inl rfl⟩ (by decide +kernel) rfl : e_Sn 56 4 (o_getf (e_f1 1 3) 7)) t_56_7
noncomputable def n_56_1 : e_Y := u_getf 0 0 (u_old (o_getf (e_f1 0 0) 4) n_56_4) n_56_4
theorem t_56_1 : e_Sn 56 1 (e_un n_56_1) := u_getfT (s_getf (C := er_0) (T := et_0) (N := 17) (ref := "Plateroomprinter") (index := 10) (ci := 0) (k := 0) hq_56 ho_56 ⟨rfl, by decide, ei_0, (List.mem_of_getElem? (i := 680) (by decide +kernel)), .inl rfl⟩ (by decide +kernel) rfl : e_Sn 56 1 (o_getf (e_f1 0 0) 4)) t_56_4
noncomputable def n_56_0 : e_Y := u_ld f_okA f_l0 n_56_1
theorem t_56_0 : e_Sn 56 0 (e_un n_56_0) := u_ldAT f_l0_eq (s_aload (i := .aload_n 0) (len := 1) hq_56 (by decide +kernel) rfl (.inr ⟨0, rfl, rfl, rfl⟩) : e_Sn 56 0 (o_load e_okR 0 1)) t_56_1
noncomputable def e_tb_56 : e_X := (e_lf 0 (e_un n_56_0))
theorem e_tk_56 : e_Tb 56 e_tb_56 := (e_lfT t_56_0)
theorem hq_10 : (e_ml[10]?).map (·.2.1) = some prog_1_method_59_code := rfl
theorem ho_10 : (e_ml[10]?).map (·.1.cls) = some "Plateroomprinter" := rfl
theorem hr_10 : (e_ml[10]?).map (·.2.2.2) = some (some .long) := rfl
noncomputable def n_10_264 : e_Y := u_tab (o_ret e_okL)
theorem t_10_264 : e_Sn 10 264 (e_un n_10_264) := u_tabT (s_lret hq_10 hr_10 (by decide +kernel) : e_Sn 10 264 (o_ret e_okL))
noncomputable def n_10_263 : e_Y := u_old (o_load e_okL 3 264) n_10_264
theorem t_10_263 : e_Sn 10 263 (e_un n_10_263) := u_oldT (s_lload (i := .lload_n 3) (len := 1) hq_10 (by decide +kernel) rfl (.inr ⟨3, rfl, rfl, rfl⟩) : e_Sn 10 263 (o_load e_okL 3 264)) t_10_264 e_congr_load
noncomputable def n_10_260 : e_Y := (u_at 236)
theorem t_10_260 : e_Sn 10 260 (e_un n_10_260) := u_gotoT (s_goto (off := (-24)) hq_10 (by decide +kernel) rfl : e_Sn 10 260 (o_goto 236)) u_atT
noncomputable def n_10_257 : e_Y := u_inc f_l5 f_s5 1 n_10_260
theorem t_10_257 : e_Sn 10 257 (e_un n_10_257) := u_incT f_l5_eq (fun _ _ _ => f_s5_eq) (s_iinc (zz := (1)) hq_10 (by decide +kernel) rfl (by decide +kernel) ⟨by decide, by decide⟩ : e_Sn 10 257 (o_iinc 5 1 260)) t_10_260
noncomputable def n_10_256 : e_Y := u_old (o_storeL 3 257) n_10_257
theorem t_10_256 : e_Sn 10 256 (e_un n_10_256) := u_oldT (s_lstore (i := .lstore_n 3) (len := 1) hq_10 (by decide +kernel) rfl (.inr ⟨3, rfl, rfl, rfl⟩) : e_Sn 10 256 (o_storeL 3 257)) t_10_257 (e_cg_storeL 3)
noncomputable def n_10_255 : e_Y := u_old (o_ladd 256) n_10_256
theorem t_10_255 : e_Sn 10 255 (e_un n_10_255) := u_oldT (s_ladd hq_10 (by decide +kernel) rfl : e_Sn 10 255 (o_ladd 256)) t_10_256 e_cg_ladd
noncomputable def n_10_254 : e_Y := u_old (o_i2l 255) n_10_255
theorem t_10_254 : e_Sn 10 254 (e_un n_10_254) := u_oldT (s_i2l hq_10 (by decide +kernel) rfl : e_Sn 10 254 (o_i2l 255)) t_10_255 e_congr_i2l
noncomputable def n_10_251 : e_Y := u_callV 0 12 2 21 2 n_12_0 n_10_254
theorem t_10_251 : e_Sn 10 251 (e_un n_10_251) := u_callVT rfl (s_callV (ci := 0) (C := er_0) (T := et_0) (N := 17) (index := 519) hq_10 ho_10 hy_12 hp_12 hc_12 hi_12 hd_12 (List.mem_of_getElem? (i := 1486) (by decide +kernel)) hs_12 (List.mem_of_getElem? (i := 1488) (by decide +kernel)) rfl (by decide +kernel) rfl : e_Sn 10 251 (o_callV (e_s1 0 12 2) 2 254)) t_12_0 t_10_254
noncomputable def n_10_249 : e_Y := u_ld f_okI f_l5 n_10_251
theorem t_10_249 : e_Sn 10 249 (e_un n_10_249) := u_ldIT f_l5_eq (s_iload (i := .iload 5) (len := 2) hq_10 (by decide +kernel) rfl (.inl ⟨rfl, rfl⟩) : e_Sn 10 249 (o_load e_okI 5 251)) t_10_251
noncomputable def n_10_248 : e_Y := u_ld f_okA f_l0 n_10_249
theorem t_10_248 : e_Sn 10 248 (e_un n_10_248) := u_ldAT f_l0_eq (s_aload (i := .aload_n 0) (len := 1) hq_10 (by decide +kernel) rfl (.inr ⟨0, rfl, rfl, rfl⟩) : e_Sn 10 248 (o_load e_okR 0 249)) t_10_249
noncomputable def n_10_247 : e_Y := u_old (o_lmul 248) n_10_248
theorem t_10_247 : e_Sn 10 247 (e_un n_10_247) := u_oldT (s_lmul hq_10 (by decide +kernel) rfl : e_Sn 10 247 (o_lmul 248)) t_10_248 e_cg_lmul
noncomputable def n_10_244 : e_Y := u_push (e_L 9223372036854775839) n_10_247
theorem t_10_244 : e_Sn 10 244 (e_un n_10_244) := u_pushT (s_ldc2 (index := 470) (v := (31)) hq_10 ho_10 (List.mem_of_getElem? (i := 1449) (by decide +kernel)) (by decide +kernel) rfl ⟨by decide +kernel, by decide +kernel⟩ : e_Sn 10 244 (o_push (e_L 9223372036854775839) 247)) t_10_247
noncomputable def n_10_243 : e_Y := u_old (o_load e_okL 3 244) n_10_244
theorem t_10_243 : e_Sn 10 243 (e_un n_10_243) := u_oldT (s_lload (i := .lload_n 3) (len := 1) hq_10 (by decide +kernel) rfl (.inr ⟨3, rfl, rfl, rfl⟩) : e_Sn 10 243 (o_load e_okL 3 244)) t_10_244 e_congr_load
noncomputable def n_10_240 : e_Y := u_jmp y_ge (u_old2 (o_clt 243 263) 243 n_10_243 n_10_263) n_10_243 n_10_263
theorem t_10_240 : e_Sn 10 240 (e_un n_10_240) := u_cltT rfl (s_cge (off := (23)) hq_10 (by decide +kernel) rfl rfl : e_Sn 10 240 (o_clt 243 263)) t_10_243 t_10_263
noncomputable def n_10_238 : e_Y := u_push (.inl 2147483701) n_10_240
theorem t_10_238 : e_Sn 10 238 (e_un n_10_238) := u_pushT (s_bipush (n := (53)) hq_10 (by decide +kernel) rfl ⟨by decide +kernel, by decide +kernel⟩ : e_Sn 10 238 (o_push (.inl 2147483701) 240)) t_10_240
noncomputable def n_10_236 : e_Y := u_ld f_okI f_l5 n_10_238
theorem t_10_236 : e_Sn 10 236 (e_un n_10_236) := u_ldIT f_l5_eq (s_iload (i := .iload 5) (len := 2) hq_10 (by decide +kernel) rfl (.inl ⟨rfl, rfl⟩) : e_Sn 10 236 (o_load e_okI 5 238)) t_10_238
noncomputable def n_10_234 : e_Y := u_st f_okI f_s5 n_10_236
theorem t_10_234 : e_Sn 10 234 (e_un n_10_234) := u_stIT (fun _ _ _ => f_s5_eq) (s_istore (i := .istore 5) (len := 2) hq_10 (by decide +kernel) rfl (.inl ⟨rfl, rfl⟩) : e_Sn 10 234 (o_store e_okI 5 236)) t_10_236
noncomputable def n_10_233 : e_Y := u_push (.inl 2147483648) n_10_234
theorem t_10_233 : e_Sn 10 233 (e_un n_10_233) := u_pushT (s_iconst (n := (0)) hq_10 (by decide +kernel) rfl ⟨by decide +kernel, by decide +kernel⟩ : e_Sn 10 233 (o_push (.inl 2147483648) 234)) t_10_234
noncomputable def n_10_230 : e_Y := (u_at 207)
theorem t_10_230 : e_Sn 10 230 (e_un n_10_230) := u_gotoT (s_goto (off := (-23)) hq_10 (by decide +kernel) rfl : e_Sn 10 230 (o_goto 207)) u_atT
noncomputable def n_10_227 : e_Y := u_inc f_l5 f_s5 1 n_10_230
theorem t_10_227 : e_Sn 10 227 (e_un n_10_227) := u_incT f_l5_eq (fun _ _ _ => f_s5_eq) (s_iinc (zz := (1)) hq_10 (by decide +kernel) rfl (by decide +kernel) ⟨by decide, by decide⟩ : e_Sn 10 227 (o_iinc 5 1 230)) t_10_230
noncomputable def n_10_226 : e_Y := u_old (o_storeL 3 227) n_10_227
theorem t_10_226 : e_Sn 10 226 (e_un n_10_226) := u_oldT (s_lstore (i := .lstore_n 3) (len := 1) hq_10 (by decide +kernel) rfl (.inr ⟨3, rfl, rfl, rfl⟩) : e_Sn 10 226 (o_storeL 3 227)) t_10_227 (e_cg_storeL 3)
noncomputable def n_10_225 : e_Y := u_old (o_ladd 226) n_10_226
theorem t_10_225 : e_Sn 10 225 (e_un n_10_225) := u_oldT (s_ladd hq_10 (by decide +kernel) rfl : e_Sn 10 225 (o_ladd 226)) t_10_226 e_cg_ladd
noncomputable def n_10_224 : e_Y := u_old (o_i2l 225) n_10_225
theorem t_10_224 : e_Sn 10 224 (e_un n_10_224) := u_oldT (s_i2l hq_10 (by decide +kernel) rfl : e_Sn 10 224 (o_i2l 225)) t_10_225 e_congr_i2l
noncomputable def n_10_221 : e_Y := u_callV 0 5 2 21 2 n_5_0 n_10_224
theorem t_10_221 : e_Sn 10 221 (e_un n_10_221) := u_callVT rfl (s_callV (ci := 0) (C := er_0) (T := et_0) (N := 17) (index := 516) hq_10 ho_10 hy_5 hp_5 hc_5 hi_5 hd_5 (List.mem_of_getElem? (i := 1482) (by decide +kernel)) hs_5 (List.mem_of_getElem? (i := 1484) (by decide +kernel)) rfl (by decide +kernel) rfl : e_Sn 10 221 (o_callV (e_s1 0 5 2) 2 224)) t_5_0 t_10_224
noncomputable def n_10_219 : e_Y := u_ld f_okI f_l5 n_10_221
theorem t_10_219 : e_Sn 10 219 (e_un n_10_219) := u_ldIT f_l5_eq (s_iload (i := .iload 5) (len := 2) hq_10 (by decide +kernel) rfl (.inl ⟨rfl, rfl⟩) : e_Sn 10 219 (o_load e_okI 5 221)) t_10_221
noncomputable def n_10_218 : e_Y := u_ld f_okA f_l0 n_10_219
theorem t_10_218 : e_Sn 10 218 (e_un n_10_218) := u_ldAT f_l0_eq (s_aload (i := .aload_n 0) (len := 1) hq_10 (by decide +kernel) rfl (.inr ⟨0, rfl, rfl, rfl⟩) : e_Sn 10 218 (o_load e_okR 0 219)) t_10_219
noncomputable def n_10_217 : e_Y := u_old (o_lmul 218) n_10_218
theorem t_10_217 : e_Sn 10 217 (e_un n_10_217) := u_oldT (s_lmul hq_10 (by decide +kernel) rfl : e_Sn 10 217 (o_lmul 218)) t_10_218 e_cg_lmul
noncomputable def n_10_214 : e_Y := u_push (e_L 9223372036854775839) n_10_217
theorem t_10_214 : e_Sn 10 214 (e_un n_10_214) := u_pushT (s_ldc2 (index := 470) (v := (31)) hq_10 ho_10 (List.mem_of_getElem? (i := 1449) (by decide +kernel)) (by decide +kernel) rfl ⟨by decide +kernel, by decide +kernel⟩ : e_Sn 10 214 (o_push (e_L 9223372036854775839) 217)) t_10_217
noncomputable def n_10_213 : e_Y := u_old (o_load e_okL 3 214) n_10_214
theorem t_10_213 : e_Sn 10 213 (e_un n_10_213) := u_oldT (s_lload (i := .lload_n 3) (len := 1) hq_10 (by decide +kernel) rfl (.inr ⟨3, rfl, rfl, rfl⟩) : e_Sn 10 213 (o_load e_okL 3 214)) t_10_214 e_congr_load
noncomputable def n_10_210 : e_Y := u_jmp y_ge (u_old2 (o_clt 213 233) 213 n_10_213 n_10_233) n_10_213 n_10_233
theorem t_10_210 : e_Sn 10 210 (e_un n_10_210) := u_cltT rfl (s_cge (off := (23)) hq_10 (by decide +kernel) rfl rfl : e_Sn 10 210 (o_clt 213 233)) t_10_213 t_10_233
noncomputable def n_10_209 : e_Y := u_push (.inl 2147483651) n_10_210
theorem t_10_209 : e_Sn 10 209 (e_un n_10_209) := u_pushT (s_iconst (n := (3)) hq_10 (by decide +kernel) rfl ⟨by decide +kernel, by decide +kernel⟩ : e_Sn 10 209 (o_push (.inl 2147483651) 210)) t_10_210
noncomputable def n_10_207 : e_Y := u_ld f_okI f_l5 n_10_209
theorem t_10_207 : e_Sn 10 207 (e_un n_10_207) := u_ldIT f_l5_eq (s_iload (i := .iload 5) (len := 2) hq_10 (by decide +kernel) rfl (.inl ⟨rfl, rfl⟩) : e_Sn 10 207 (o_load e_okI 5 209)) t_10_209
noncomputable def n_10_205 : e_Y := u_st f_okI f_s5 n_10_207
theorem t_10_205 : e_Sn 10 205 (e_un n_10_205) := u_stIT (fun _ _ _ => f_s5_eq) (s_istore (i := .istore 5) (len := 2) hq_10 (by decide +kernel) rfl (.inl ⟨rfl, rfl⟩) : e_Sn 10 205 (o_store e_okI 5 207)) t_10_207
noncomputable def n_10_204 : e_Y := u_push (.inl 2147483648) n_10_205
theorem t_10_204 : e_Sn 10 204 (e_un n_10_204) := u_pushT (s_iconst (n := (0)) hq_10 (by decide +kernel) rfl ⟨by decide +kernel, by decide +kernel⟩ : e_Sn 10 204 (o_push (.inl 2147483648) 205)) t_10_205
noncomputable def n_10_201 : e_Y := (u_at 161)
theorem t_10_201 : e_Sn 10 201 (e_un n_10_201) := u_gotoT (s_goto (off := (-40)) hq_10 (by decide +kernel) rfl : e_Sn 10 201 (o_goto 161)) u_atT
noncomputable def n_10_198 : e_Y := u_inc f_l5 f_s5 1 n_10_201
theorem t_10_198 : e_Sn 10 198 (e_un n_10_198) := u_incT f_l5_eq (fun _ _ _ => f_s5_eq) (s_iinc (zz := (1)) hq_10 (by decide +kernel) rfl (by decide +kernel) ⟨by decide, by decide⟩ : e_Sn 10 198 (o_iinc 5 1 201)) t_10_201
noncomputable def n_10_197 : e_Y := u_old (o_storeL 3 198) n_10_198
theorem t_10_197 : e_Sn 10 197 (e_un n_10_197) := u_oldT (s_lstore (i := .lstore_n 3) (len := 1) hq_10 (by decide +kernel) rfl (.inr ⟨3, rfl, rfl, rfl⟩) : e_Sn 10 197 (o_storeL 3 198)) t_10_198 (e_cg_storeL 3)
noncomputable def n_10_196 : e_Y := u_old (o_ladd 197) n_10_197
theorem t_10_196 : e_Sn 10 196 (e_un n_10_196) := u_oldT (s_ladd hq_10 (by decide +kernel) rfl : e_Sn 10 196 (o_ladd 197)) t_10_197 e_cg_ladd
noncomputable def n_10_195 : e_Y := u_old (o_i2l 196) n_10_196
theorem t_10_195 : e_Sn 10 195 (e_un n_10_195) := u_oldT (s_i2l hq_10 (by decide +kernel) rfl : e_Sn 10 195 (o_i2l 196)) t_10_196 e_congr_i2l
noncomputable def n_10_192 : e_Y := u_callV 0 40 3 22 3 n_40_0 n_10_195
theorem t_10_192 : e_Sn 10 192 (e_un n_10_192) := u_callVT rfl (s_callV (ci := 0) (C := er_0) (T := et_0) (N := 17) (index := 513) hq_10 ho_10 hy_40 hp_40 hc_40 hi_40 hd_40 (List.mem_of_getElem? (i := 1477) (by decide +kernel)) hs_40 (List.mem_of_getElem? (i := 1479) (by decide +kernel)) rfl (by decide +kernel) rfl : e_Sn 10 192 (o_callV (e_s1 0 40 3) 3 195)) t_40_0 t_10_195
noncomputable def n_10_191 : e_Y := u_push (.inl 2147483649) n_10_192
theorem t_10_191 : e_Sn 10 191 (e_un n_10_191) := u_pushT (s_iconst (n := (1)) hq_10 (by decide +kernel) rfl ⟨by decide +kernel, by decide +kernel⟩ : e_Sn 10 191 (o_push (.inl 2147483649) 192)) t_10_192
noncomputable def n_10_189 : e_Y := u_ld f_okI f_l5 n_10_191
theorem t_10_189 : e_Sn 10 189 (e_un n_10_189) := u_ldIT f_l5_eq (s_iload (i := .iload 5) (len := 2) hq_10 (by decide +kernel) rfl (.inl ⟨rfl, rfl⟩) : e_Sn 10 189 (o_load e_okI 5 191)) t_10_191
noncomputable def n_10_188 : e_Y := u_ld f_okA f_l0 n_10_189
theorem t_10_188 : e_Sn 10 188 (e_un n_10_188) := u_ldAT f_l0_eq (s_aload (i := .aload_n 0) (len := 1) hq_10 (by decide +kernel) rfl (.inr ⟨0, rfl, rfl, rfl⟩) : e_Sn 10 188 (o_load e_okR 0 189)) t_10_189
noncomputable def n_10_187 : e_Y := u_old (o_lmul 188) n_10_188
theorem t_10_187 : e_Sn 10 187 (e_un n_10_187) := u_oldT (s_lmul hq_10 (by decide +kernel) rfl : e_Sn 10 187 (o_lmul 188)) t_10_188 e_cg_lmul
noncomputable def n_10_184 : e_Y := u_push (e_L 9223372036854775839) n_10_187
theorem t_10_184 : e_Sn 10 184 (e_un n_10_184) := u_pushT (s_ldc2 (index := 470) (v := (31)) hq_10 ho_10 (List.mem_of_getElem? (i := 1449) (by decide +kernel)) (by decide +kernel) rfl ⟨by decide +kernel, by decide +kernel⟩ : e_Sn 10 184 (o_push (e_L 9223372036854775839) 187)) t_10_187
noncomputable def n_10_183 : e_Y := u_old (o_load e_okL 3 184) n_10_184
theorem t_10_183 : e_Sn 10 183 (e_un n_10_183) := u_oldT (s_lload (i := .lload_n 3) (len := 1) hq_10 (by decide +kernel) rfl (.inr ⟨3, rfl, rfl, rfl⟩) : e_Sn 10 183 (o_load e_okL 3 184)) t_10_184 e_congr_load
noncomputable def n_10_182 : e_Y := u_old (o_storeL 3 183) n_10_183
theorem t_10_182 : e_Sn 10 182 (e_un n_10_182) := u_oldT (s_lstore (i := .lstore_n 3) (len := 1) hq_10 (by decide +kernel) rfl (.inr ⟨3, rfl, rfl, rfl⟩) : e_Sn 10 182 (o_storeL 3 183)) t_10_183 (e_cg_storeL 3)
noncomputable def n_10_181 : e_Y := u_old (o_ladd 182) n_10_182
theorem t_10_181 : e_Sn 10 181 (e_un n_10_181) := u_oldT (s_ladd hq_10 (by decide +kernel) rfl : e_Sn 10 181 (o_ladd 182)) t_10_182 e_cg_ladd
noncomputable def n_10_180 : e_Y := u_old (o_i2l 181) n_10_181
theorem t_10_180 : e_Sn 10 180 (e_un n_10_180) := u_oldT (s_i2l hq_10 (by decide +kernel) rfl : e_Sn 10 180 (o_i2l 181)) t_10_181 e_congr_i2l
noncomputable def n_10_177 : e_Y := u_callV 0 40 3 22 3 n_40_0 n_10_180
theorem t_10_177 : e_Sn 10 177 (e_un n_10_177) := u_callVT rfl (s_callV (ci := 0) (C := er_0) (T := et_0) (N := 17) (index := 513) hq_10 ho_10 hy_40 hp_40 hc_40 hi_40 hd_40 (List.mem_of_getElem? (i := 1477) (by decide +kernel)) hs_40 (List.mem_of_getElem? (i := 1479) (by decide +kernel)) rfl (by decide +kernel) rfl : e_Sn 10 177 (o_callV (e_s1 0 40 3) 3 180)) t_40_0 t_10_180
noncomputable def n_10_176 : e_Y := u_push (.inl 2147483648) n_10_177
theorem t_10_176 : e_Sn 10 176 (e_un n_10_176) := u_pushT (s_iconst (n := (0)) hq_10 (by decide +kernel) rfl ⟨by decide +kernel, by decide +kernel⟩ : e_Sn 10 176 (o_push (.inl 2147483648) 177)) t_10_177
noncomputable def n_10_174 : e_Y := u_ld f_okI f_l5 n_10_176
theorem t_10_174 : e_Sn 10 174 (e_un n_10_174) := u_ldIT f_l5_eq (s_iload (i := .iload 5) (len := 2) hq_10 (by decide +kernel) rfl (.inl ⟨rfl, rfl⟩) : e_Sn 10 174 (o_load e_okI 5 176)) t_10_176
noncomputable def n_10_173 : e_Y := u_ld f_okA f_l0 n_10_174
theorem t_10_173 : e_Sn 10 173 (e_un n_10_173) := u_ldAT f_l0_eq (s_aload (i := .aload_n 0) (len := 1) hq_10 (by decide +kernel) rfl (.inr ⟨0, rfl, rfl, rfl⟩) : e_Sn 10 173 (o_load e_okR 0 174)) t_10_174
noncomputable def n_10_172 : e_Y := u_old (o_lmul 173) n_10_173
theorem t_10_172 : e_Sn 10 172 (e_un n_10_172) := u_oldT (s_lmul hq_10 (by decide +kernel) rfl : e_Sn 10 172 (o_lmul 173)) t_10_173 e_cg_lmul
noncomputable def n_10_169 : e_Y := u_push (e_L 9223372036854775839) n_10_172
theorem t_10_169 : e_Sn 10 169 (e_un n_10_169) := u_pushT (s_ldc2 (index := 470) (v := (31)) hq_10 ho_10 (List.mem_of_getElem? (i := 1449) (by decide +kernel)) (by decide +kernel) rfl ⟨by decide +kernel, by decide +kernel⟩ : e_Sn 10 169 (o_push (e_L 9223372036854775839) 172)) t_10_172
noncomputable def n_10_168 : e_Y := u_old (o_load e_okL 3 169) n_10_169
theorem t_10_168 : e_Sn 10 168 (e_un n_10_168) := u_oldT (s_lload (i := .lload_n 3) (len := 1) hq_10 (by decide +kernel) rfl (.inr ⟨3, rfl, rfl, rfl⟩) : e_Sn 10 168 (o_load e_okL 3 169)) t_10_169 e_congr_load
noncomputable def n_10_165 : e_Y := u_jmp y_ge (u_old2 (o_clt 168 204) 168 n_10_168 n_10_204) n_10_168 n_10_204
theorem t_10_165 : e_Sn 10 165 (e_un n_10_165) := u_cltT rfl (s_cge (off := (39)) hq_10 (by decide +kernel) rfl rfl : e_Sn 10 165 (o_clt 168 204)) t_10_168 t_10_204
noncomputable def n_10_163 : e_Y := u_push (.inl 2147483658) n_10_165
theorem t_10_163 : e_Sn 10 163 (e_un n_10_163) := u_pushT (s_bipush (n := (10)) hq_10 (by decide +kernel) rfl ⟨by decide +kernel, by decide +kernel⟩ : e_Sn 10 163 (o_push (.inl 2147483658) 165)) t_10_165
noncomputable def n_10_161 : e_Y := u_ld f_okI f_l5 n_10_163
theorem t_10_161 : e_Sn 10 161 (e_un n_10_161) := u_ldIT f_l5_eq (s_iload (i := .iload 5) (len := 2) hq_10 (by decide +kernel) rfl (.inl ⟨rfl, rfl⟩) : e_Sn 10 161 (o_load e_okI 5 163)) t_10_163
noncomputable def n_10_159 : e_Y := u_st f_okI f_s5 n_10_161
theorem t_10_159 : e_Sn 10 159 (e_un n_10_159) := u_stIT (fun _ _ _ => f_s5_eq) (s_istore (i := .istore 5) (len := 2) hq_10 (by decide +kernel) rfl (.inl ⟨rfl, rfl⟩) : e_Sn 10 159 (o_store e_okI 5 161)) t_10_161
noncomputable def n_10_158 : e_Y := u_push (.inl 2147483648) n_10_159
theorem t_10_158 : e_Sn 10 158 (e_un n_10_158) := u_pushT (s_iconst (n := (0)) hq_10 (by decide +kernel) rfl ⟨by decide +kernel, by decide +kernel⟩ : e_Sn 10 158 (o_push (.inl 2147483648) 159)) t_10_159
noncomputable def n_10_119 : e_Y := u_jmp y_ge (u_old2 (o_clt 122 158) 122 (u_at 122) n_10_158) (u_at 122) n_10_158
theorem t_10_119 : e_Sn 10 119 (e_un n_10_119) := u_cltT rfl (s_cge (off := (39)) hq_10 (by decide +kernel) rfl rfl : e_Sn 10 119 (o_clt 122 158)) u_atT t_10_158
noncomputable def n_10_116 : e_Y := u_getf 4 4 (u_old (o_getf (e_f1 4 4) 119) n_10_119) n_10_119
theorem t_10_116 : e_Sn 10 116 (e_un n_10_116) := u_getfT (s_getf (C := er_4) (T := et_4) (N := 5) (ref := "Plateroomprinter$Items") (index := 191) (ci := 4) (k := 4) hq_10 ho_10 ⟨rfl, by decide, ei_4, (List.mem_of_getElem? (i := 237) (by decide +kernel)), .inl rfl⟩ (by decide +kernel) rfl : e_Sn 10 116 (o_getf (e_f1 4 4) 119)) t_10_119
noncomputable def n_10_113 : e_Y := u_getf 11 0 (u_old (o_getf (e_f1 11 0) 116) n_10_116) n_10_116
theorem t_10_113 : e_Sn 10 113 (e_un n_10_113) := u_getfT (s_getf (C := er_11) (T := et_11) (N := 15) (ref := "Plateroomprinter$World") (index := 187) (ci := 11) (k := 0) hq_10 ho_10 ⟨rfl, by decide, ei_11, (List.mem_of_getElem? (i := 461) (by decide +kernel)), .inl rfl⟩ (by decide +kernel) rfl : e_Sn 10 113 (o_getf (e_f1 11 0) 116)) t_10_116
noncomputable def n_10_110 : e_Y := u_getf 0 1 (u_old (o_getf (e_f1 0 1) 113) n_10_113) n_10_113
theorem t_10_110 : e_Sn 10 110 (e_un n_10_110) := u_getfT (s_getf (C := er_0) (T := et_0) (N := 17) (ref := "Plateroomprinter") (index := 19) (ci := 0) (k := 1) hq_10 ho_10 ⟨rfl, by decide, ei_0, (List.mem_of_getElem? (i := 681) (by decide +kernel)), .inl rfl⟩ (by decide +kernel) rfl : e_Sn 10 110 (o_getf (e_f1 0 1) 113)) t_10_113
noncomputable def n_10_109 : e_Y := u_ld f_okA f_l0 n_10_110
theorem t_10_109 : e_Sn 10 109 (e_un n_10_109) := u_ldAT f_l0_eq (s_aload (i := .aload_n 0) (len := 1) hq_10 (by decide +kernel) rfl (.inr ⟨0, rfl, rfl, rfl⟩) : e_Sn 10 109 (o_load e_okR 0 110)) t_10_110
noncomputable def n_10_107 : e_Y := u_ld f_okI f_l5 n_10_109
theorem t_10_107 : e_Sn 10 107 (e_un n_10_107) := u_ldIT f_l5_eq (s_iload (i := .iload 5) (len := 2) hq_10 (by decide +kernel) rfl (.inl ⟨rfl, rfl⟩) : e_Sn 10 107 (o_load e_okI 5 109)) t_10_109
noncomputable def n_10_105 : e_Y := u_st f_okI f_s5 n_10_107
theorem t_10_105 : e_Sn 10 105 (e_un n_10_105) := u_stIT (fun _ _ _ => f_s5_eq) (s_istore (i := .istore 5) (len := 2) hq_10 (by decide +kernel) rfl (.inl ⟨rfl, rfl⟩) : e_Sn 10 105 (o_store e_okI 5 107)) t_10_107
noncomputable def n_10_104 : e_Y := u_push (.inl 2147483648) n_10_105
theorem t_10_104 : e_Sn 10 104 (e_un n_10_104) := u_pushT (s_iconst (n := (0)) hq_10 (by decide +kernel) rfl ⟨by decide +kernel, by decide +kernel⟩ : e_Sn 10 104 (o_push (.inl 2147483648) 105)) t_10_105
noncomputable def n_10_103 : e_Y := u_old (o_storeL 3 104) n_10_104
theorem t_10_103 : e_Sn 10 103 (e_un n_10_103) := u_oldT (s_lstore (i := .lstore_n 3) (len := 1) hq_10 (by decide +kernel) rfl (.inr ⟨3, rfl, rfl, rfl⟩) : e_Sn 10 103 (o_storeL 3 104)) t_10_104 (e_cg_storeL 3)
noncomputable def n_10_102 : e_Y := u_old (o_ladd 103) n_10_103
theorem t_10_102 : e_Sn 10 102 (e_un n_10_102) := u_oldT (s_ladd hq_10 (by decide +kernel) rfl : e_Sn 10 102 (o_ladd 103)) t_10_103 e_cg_ladd
noncomputable def n_10_101 : e_Y := u_old (o_i2l 102) n_10_102
theorem t_10_101 : e_Sn 10 101 (e_un n_10_101) := u_oldT (s_i2l hq_10 (by decide +kernel) rfl : e_Sn 10 101 (o_i2l 102)) t_10_102 e_congr_i2l
noncomputable def n_10_98 : e_Y := u_callV 0 32 1 20 1 n_32_0 n_10_101
theorem t_10_98 : e_Sn 10 98 (e_un n_10_98) := u_callVT rfl (s_callV (ci := 0) (C := er_0) (T := et_0) (N := 17) (index := 507) hq_10 ho_10 hy_32 hp_32 hc_32 hi_32 hd_32 (List.mem_of_getElem? (i := 1464) (by decide +kernel)) hs_32 (List.mem_of_getElem? (i := 1252) (by decide +kernel)) rfl (by decide +kernel) rfl : e_Sn 10 98 (o_callV (e_s1 0 32 1) 1 101)) t_32_0 t_10_101
noncomputable def n_10_97 : e_Y := u_ld f_okA f_l0 n_10_98
theorem t_10_97 : e_Sn 10 97 (e_un n_10_97) := u_ldAT f_l0_eq (s_aload (i := .aload_n 0) (len := 1) hq_10 (by decide +kernel) rfl (.inr ⟨0, rfl, rfl, rfl⟩) : e_Sn 10 97 (o_load e_okR 0 98)) t_10_98
noncomputable def n_10_96 : e_Y := u_old (o_lmul 97) n_10_97
theorem t_10_96 : e_Sn 10 96 (e_un n_10_96) := u_oldT (s_lmul hq_10 (by decide +kernel) rfl : e_Sn 10 96 (o_lmul 97)) t_10_97 e_cg_lmul
noncomputable def n_10_93 : e_Y := u_push (e_L 9223372036854775839) n_10_96
theorem t_10_93 : e_Sn 10 93 (e_un n_10_93) := u_pushT (s_ldc2 (index := 470) (v := (31)) hq_10 ho_10 (List.mem_of_getElem? (i := 1449) (by decide +kernel)) (by decide +kernel) rfl ⟨by decide +kernel, by decide +kernel⟩ : e_Sn 10 93 (o_push (e_L 9223372036854775839) 96)) t_10_96
noncomputable def n_10_92 : e_Y := u_old (o_load e_okL 3 93) n_10_93
theorem t_10_92 : e_Sn 10 92 (e_un n_10_92) := u_oldT (s_lload (i := .lload_n 3) (len := 1) hq_10 (by decide +kernel) rfl (.inr ⟨3, rfl, rfl, rfl⟩) : e_Sn 10 92 (o_load e_okL 3 93)) t_10_93 e_congr_load
noncomputable def n_10_89 : e_Y := (u_at 66)
theorem t_10_89 : e_Sn 10 89 (e_un n_10_89) := u_gotoT (s_goto (off := (-23)) hq_10 (by decide +kernel) rfl : e_Sn 10 89 (o_goto 66)) u_atT
noncomputable def n_10_86 : e_Y := u_inc f_l5 f_s5 1 n_10_89
theorem t_10_86 : e_Sn 10 86 (e_un n_10_86) := u_incT f_l5_eq (fun _ _ _ => f_s5_eq) (s_iinc (zz := (1)) hq_10 (by decide +kernel) rfl (by decide +kernel) ⟨by decide, by decide⟩ : e_Sn 10 86 (o_iinc 5 1 89)) t_10_89
noncomputable def n_10_85 : e_Y := u_old (o_storeL 3 86) n_10_86
theorem t_10_85 : e_Sn 10 85 (e_un n_10_85) := u_oldT (s_lstore (i := .lstore_n 3) (len := 1) hq_10 (by decide +kernel) rfl (.inr ⟨3, rfl, rfl, rfl⟩) : e_Sn 10 85 (o_storeL 3 86)) t_10_86 (e_cg_storeL 3)
noncomputable def n_10_84 : e_Y := u_old (o_ladd 85) n_10_85
theorem t_10_84 : e_Sn 10 84 (e_un n_10_84) := u_oldT (s_ladd hq_10 (by decide +kernel) rfl : e_Sn 10 84 (o_ladd 85)) t_10_85 e_cg_ladd
noncomputable def n_10_83 : e_Y := u_old (o_i2l 84) n_10_84
theorem t_10_83 : e_Sn 10 83 (e_un n_10_83) := u_oldT (s_i2l hq_10 (by decide +kernel) rfl : e_Sn 10 83 (o_i2l 84)) t_10_84 e_congr_i2l
noncomputable def n_10_80 : e_Y := u_callV 0 16 2 21 2 n_16_0 n_10_83
theorem t_10_80 : e_Sn 10 80 (e_un n_10_80) := u_callVT rfl (s_callV (ci := 0) (C := er_0) (T := et_0) (N := 17) (index := 504) hq_10 ho_10 hy_16 hp_16 hc_16 hi_16 hd_16 (List.mem_of_getElem? (i := 1459) (by decide +kernel)) hs_16 (List.mem_of_getElem? (i := 1461) (by decide +kernel)) rfl (by decide +kernel) rfl : e_Sn 10 80 (o_callV (e_s1 0 16 2) 2 83)) t_16_0 t_10_83
noncomputable def n_10_78 : e_Y := u_ld f_okI f_l5 n_10_80
theorem t_10_78 : e_Sn 10 78 (e_un n_10_78) := u_ldIT f_l5_eq (s_iload (i := .iload 5) (len := 2) hq_10 (by decide +kernel) rfl (.inl ⟨rfl, rfl⟩) : e_Sn 10 78 (o_load e_okI 5 80)) t_10_80
noncomputable def n_10_77 : e_Y := u_ld f_okA f_l0 n_10_78
theorem t_10_77 : e_Sn 10 77 (e_un n_10_77) := u_ldAT f_l0_eq (s_aload (i := .aload_n 0) (len := 1) hq_10 (by decide +kernel) rfl (.inr ⟨0, rfl, rfl, rfl⟩) : e_Sn 10 77 (o_load e_okR 0 78)) t_10_78
noncomputable def n_10_76 : e_Y := u_old (o_lmul 77) n_10_77
theorem t_10_76 : e_Sn 10 76 (e_un n_10_76) := u_oldT (s_lmul hq_10 (by decide +kernel) rfl : e_Sn 10 76 (o_lmul 77)) t_10_77 e_cg_lmul
noncomputable def n_10_73 : e_Y := u_push (e_L 9223372036854775839) n_10_76
theorem t_10_73 : e_Sn 10 73 (e_un n_10_73) := u_pushT (s_ldc2 (index := 470) (v := (31)) hq_10 ho_10 (List.mem_of_getElem? (i := 1449) (by decide +kernel)) (by decide +kernel) rfl ⟨by decide +kernel, by decide +kernel⟩ : e_Sn 10 73 (o_push (e_L 9223372036854775839) 76)) t_10_76
noncomputable def n_10_72 : e_Y := u_old (o_load e_okL 3 73) n_10_73
theorem t_10_72 : e_Sn 10 72 (e_un n_10_72) := u_oldT (s_lload (i := .lload_n 3) (len := 1) hq_10 (by decide +kernel) rfl (.inr ⟨3, rfl, rfl, rfl⟩) : e_Sn 10 72 (o_load e_okL 3 73)) t_10_73 e_congr_load
noncomputable def n_10_69 : e_Y := u_jmp y_ge (u_old2 (o_clt 72 92) 72 n_10_72 n_10_92) n_10_72 n_10_92
theorem t_10_69 : e_Sn 10 69 (e_un n_10_69) := u_cltT rfl (s_cge (off := (23)) hq_10 (by decide +kernel) rfl rfl : e_Sn 10 69 (o_clt 72 92)) t_10_72 t_10_92
noncomputable def n_10_68 : e_Y := u_push (.inl 2147483651) n_10_69
theorem t_10_68 : e_Sn 10 68 (e_un n_10_68) := u_pushT (s_iconst (n := (3)) hq_10 (by decide +kernel) rfl ⟨by decide +kernel, by decide +kernel⟩ : e_Sn 10 68 (o_push (.inl 2147483651) 69)) t_10_69
noncomputable def n_10_66 : e_Y := u_ld f_okI f_l5 n_10_68
theorem t_10_66 : e_Sn 10 66 (e_un n_10_66) := u_ldIT f_l5_eq (s_iload (i := .iload 5) (len := 2) hq_10 (by decide +kernel) rfl (.inl ⟨rfl, rfl⟩) : e_Sn 10 66 (o_load e_okI 5 68)) t_10_68
noncomputable def n_10_64 : e_Y := u_st f_okI f_s5 n_10_66
theorem t_10_64 : e_Sn 10 64 (e_un n_10_64) := u_stIT (fun _ _ _ => f_s5_eq) (s_istore (i := .istore 5) (len := 2) hq_10 (by decide +kernel) rfl (.inl ⟨rfl, rfl⟩) : e_Sn 10 64 (o_store e_okI 5 66)) t_10_66
noncomputable def n_10_63 : e_Y := u_push (.inl 2147483648) n_10_64
theorem t_10_63 : e_Sn 10 63 (e_un n_10_63) := u_pushT (s_iconst (n := (0)) hq_10 (by decide +kernel) rfl ⟨by decide +kernel, by decide +kernel⟩ : e_Sn 10 63 (o_push (.inl 2147483648) 64)) t_10_64
noncomputable def n_10_24 : e_Y := u_jmp y_ge (u_old2 (o_clt 27 63) 27 (u_at 27) n_10_63) (u_at 27) n_10_63
theorem t_10_24 : e_Sn 10 24 (e_un n_10_24) := u_cltT rfl (s_cge (off := (39)) hq_10 (by decide +kernel) rfl rfl : e_Sn 10 24 (o_clt 27 63)) u_atT t_10_63
noncomputable def n_10_21 : e_Y := u_getf 1 3 (u_old (o_getf (e_f1 1 3) 24) n_10_24) n_10_24
theorem t_10_21 : e_Sn 10 21 (e_un n_10_21) := u_getfT (s_getf (C := er_1) (T := et_1) (N := 4) (ref := "Plateroomprinter$Code") (index := 101) (ci := 1) (k := 3) hq_10 ho_10 ⟨rfl, by decide, ei_1, (List.mem_of_getElem? (i := 204) (by decide +kernel)), .inl rfl⟩ (by decide +kernel) rfl : e_Sn 10 21 (o_getf (e_f1 1 3) 24)) t_10_24
noncomputable def n_10_18 : e_Y := u_getf 0 0 (u_old (o_getf (e_f1 0 0) 21) n_10_21) n_10_21
theorem t_10_18 : e_Sn 10 18 (e_un n_10_18) := u_getfT (s_getf (C := er_0) (T := et_0) (N := 17) (ref := "Plateroomprinter") (index := 10) (ci := 0) (k := 0) hq_10 ho_10 ⟨rfl, by decide, ei_0, (List.mem_of_getElem? (i := 680) (by decide +kernel)), .inl rfl⟩ (by decide +kernel) rfl : e_Sn 10 18 (o_getf (e_f1 0 0) 21)) t_10_21
noncomputable def n_10_17 : e_Y := u_ld f_okA f_l0 n_10_18
theorem t_10_17 : e_Sn 10 17 (e_un n_10_17) := u_ldAT f_l0_eq (s_aload (i := .aload_n 0) (len := 1) hq_10 (by decide +kernel) rfl (.inr ⟨0, rfl, rfl, rfl⟩) : e_Sn 10 17 (o_load e_okR 0 18)) t_10_18
noncomputable def n_10_15 : e_Y := u_ld f_okI f_l5 n_10_17
theorem t_10_15 : e_Sn 10 15 (e_un n_10_15) := u_ldIT f_l5_eq (s_iload (i := .iload 5) (len := 2) hq_10 (by decide +kernel) rfl (.inl ⟨rfl, rfl⟩) : e_Sn 10 15 (o_load e_okI 5 17)) t_10_17
noncomputable def n_10_13 : e_Y := u_st f_okI f_s5 n_10_15
theorem t_10_13 : e_Sn 10 13 (e_un n_10_13) := u_stIT (fun _ _ _ => f_s5_eq) (s_istore (i := .istore 5) (len := 2) hq_10 (by decide +kernel) rfl (.inl ⟨rfl, rfl⟩) : e_Sn 10 13 (o_store e_okI 5 15)) t_10_15
noncomputable def n_10_12 : e_Y := u_push (.inl 2147483648) n_10_13
theorem t_10_12 : e_Sn 10 12 (e_un n_10_12) := u_pushT (s_iconst (n := (0)) hq_10 (by decide +kernel) rfl ⟨by decide +kernel, by decide +kernel⟩ : e_Sn 10 12 (o_push (.inl 2147483648) 13)) t_10_13
noncomputable def n_10_11 : e_Y := u_old (o_storeL 3 12) n_10_12
theorem t_10_11 : e_Sn 10 11 (e_un n_10_11) := u_oldT (s_lstore (i := .lstore_n 3) (len := 1) hq_10 (by decide +kernel) rfl (.inr ⟨3, rfl, rfl, rfl⟩) : e_Sn 10 11 (o_storeL 3 12)) t_10_12 (e_cg_storeL 3)
noncomputable def n_10_10 : e_Y := u_old (o_ladd 11) n_10_11
theorem t_10_10 : e_Sn 10 10 (e_un n_10_10) := u_oldT (s_ladd hq_10 (by decide +kernel) rfl : e_Sn 10 10 (o_ladd 11)) t_10_11 e_cg_ladd
noncomputable def n_10_9 : e_Y := u_old (o_i2l 10) n_10_10
theorem t_10_9 : e_Sn 10 9 (e_un n_10_9) := u_oldT (s_i2l hq_10 (by decide +kernel) rfl : e_Sn 10 9 (o_i2l 10)) t_10_10 e_congr_i2l
noncomputable def n_10_6 : e_Y := u_callV 0 56 1 20 1 n_56_0 n_10_9
theorem t_10_6 : e_Sn 10 6 (e_un n_10_6) := u_callVT rfl (s_callV (ci := 0) (C := er_0) (T := et_0) (N := 17) (index := 498) hq_10 ho_10 hy_56 hp_56 hc_56 hi_56 hd_56 (List.mem_of_getElem? (i := 1450) (by decide +kernel)) hs_56 (List.mem_of_getElem? (i := 1248) (by decide +kernel)) rfl (by decide +kernel) rfl : e_Sn 10 6 (o_callV (e_s1 0 56 1) 1 9)) t_56_0 t_10_9
noncomputable def n_10_5 : e_Y := u_ld f_okA f_l0 n_10_6
theorem t_10_5 : e_Sn 10 5 (e_un n_10_5) := u_ldAT f_l0_eq (s_aload (i := .aload_n 0) (len := 1) hq_10 (by decide +kernel) rfl (.inr ⟨0, rfl, rfl, rfl⟩) : e_Sn 10 5 (o_load e_okR 0 6)) t_10_6
noncomputable def n_10_4 : e_Y := u_old (o_lmul 5) n_10_5
theorem t_10_4 : e_Sn 10 4 (e_un n_10_4) := u_oldT (s_lmul hq_10 (by decide +kernel) rfl : e_Sn 10 4 (o_lmul 5)) t_10_5 e_cg_lmul
noncomputable def n_10_1 : e_Y := u_push (e_L 9223372036854775839) n_10_4
theorem t_10_1 : e_Sn 10 1 (e_un n_10_1) := u_pushT (s_ldc2 (index := 470) (v := (31)) hq_10 ho_10 (List.mem_of_getElem? (i := 1449) (by decide +kernel)) (by decide +kernel) rfl ⟨by decide +kernel, by decide +kernel⟩ : e_Sn 10 1 (o_push (e_L 9223372036854775839) 4)) t_10_4
noncomputable def n_10_0 : e_Y := u_old (o_load e_okL 1 1) n_10_1
theorem t_10_0 : e_Sn 10 0 (e_un n_10_0) := u_oldT (s_lload (i := .lload_n 1) (len := 1) hq_10 (by decide +kernel) rfl (.inr ⟨1, rfl, rfl, rfl⟩) : e_Sn 10 0 (o_load e_okL 1 1)) t_10_1 e_congr_load
noncomputable def e_tb_10 : e_X := (e_br 161 (e_br 66 (e_lf 0 (e_un n_10_0)) (e_lf 66 (e_un n_10_66))) (e_br 207 (e_lf 161 (e_un n_10_161)) (e_br 236 (e_lf 207 (e_un n_10_207)) (e_lf 236 (e_un n_10_236)))))
theorem e_tk_10 : e_Tb 10 e_tb_10 := (e_brT (e_brT (e_lfT t_10_0) (e_lfT t_10_66)) (e_brT (e_lfT t_10_161) (e_brT (e_lfT t_10_207) (e_lfT t_10_236))))
theorem hq_37 : (e_ml[37]?).map (·.2.1) = some prog_1_method_20_code := rfl
theorem ho_37 : (e_ml[37]?).map (·.1.cls) = some "Plateroomprinter" := rfl
theorem hr_37 : (e_ml[37]?).map (·.2.2.2) = some (some .int) := rfl
noncomputable def n_37_78 : e_Y := u_retI
theorem t_37_78 : e_Sn 37 78 (e_un n_37_78) := u_retIT (s_iret hq_37 hr_37 (by decide +kernel) : e_Sn 37 78 (o_ret e_okI))
noncomputable def n_37_77 : e_Y := u_old (o_l2i 78) n_37_78
theorem t_37_77 : e_Sn 37 77 (e_un n_37_77) := u_oldT (s_l2i hq_37 (by decide +kernel) rfl : e_Sn 37 77 (o_l2i 78)) t_37_78 e_cg_l2i
noncomputable def n_37_76 : e_Y := u_ald 2 (u_old (o_aldO 2 77) n_37_77) n_37_77
theorem t_37_76 : e_Sn 37 76 (e_un n_37_76) := u_aldOT (s_lald hq_37 (by decide +kernel) rfl : e_Sn 37 76 (o_aldO 2 77)) t_37_77
noncomputable def n_37_75 : e_Y := u_ld f_okI f_l1 n_37_76
theorem t_37_75 : e_Sn 37 75 (e_un n_37_75) := u_ldIT f_l1_eq (s_iload (i := .iload_n 1) (len := 1) hq_37 (by decide +kernel) rfl (.inr ⟨1, rfl, rfl, rfl⟩) : e_Sn 37 75 (o_load e_okI 1 76)) t_37_76
noncomputable def n_37_72 : e_Y := u_getf 5 1 (u_old (o_getf (e_f1 5 1) 75) n_37_75) n_37_75
theorem t_37_72 : e_Sn 37 72 (e_un n_37_72) := u_getfT (s_getf (C := er_5) (T := et_5) (N := 5) (ref := "Plateroomprinter$Matrix") (index := 288) (ci := 5) (k := 1) hq_37 ho_37 ⟨rfl, by decide, ei_5, (List.mem_of_getElem? (i := 264) (by decide +kernel)), .inl rfl⟩ (by decide +kernel) rfl : e_Sn 37 72 (o_getf (e_f1 5 1) 75)) t_37_75
noncomputable def n_37_69 : e_Y := u_getf 10 0 (u_old (o_getf (e_f1 10 0) 72) n_37_72) n_37_72
theorem t_37_69 : e_Sn 37 69 (e_un n_37_69) := u_getfT (s_getf (C := er_10) (T := et_10) (N := 11) (ref := "Plateroomprinter$State") (index := 278) (ci := 10) (k := 0) hq_37 ho_37 ⟨rfl, by decide, ei_10, (List.mem_of_getElem? (i := 318) (by decide +kernel)), .inl rfl⟩ (by decide +kernel) rfl : e_Sn 37 69 (o_getf (e_f1 10 0) 72)) t_37_72
noncomputable def n_37_66 : e_Y := u_getf 11 2 (u_old (o_getf (e_f1 11 2) 69) n_37_69) n_37_69
theorem t_37_66 : e_Sn 37 66 (e_un n_37_66) := u_getfT (s_getf (C := er_11) (T := et_11) (N := 15) (ref := "Plateroomprinter$World") (index := 221) (ci := 11) (k := 2) hq_37 ho_37 ⟨rfl, by decide, ei_11, (List.mem_of_getElem? (i := 467) (by decide +kernel)), .inl rfl⟩ (by decide +kernel) rfl : e_Sn 37 66 (o_getf (e_f1 11 2) 69)) t_37_69
noncomputable def n_37_63 : e_Y := u_getf 0 1 (u_old (o_getf (e_f1 0 1) 66) n_37_66) n_37_66
theorem t_37_63 : e_Sn 37 63 (e_un n_37_63) := u_getfT (s_getf (C := er_0) (T := et_0) (N := 17) (ref := "Plateroomprinter") (index := 19) (ci := 0) (k := 1) hq_37 ho_37 ⟨rfl, by decide, ei_0, (List.mem_of_getElem? (i := 681) (by decide +kernel)), .inl rfl⟩ (by decide +kernel) rfl : e_Sn 37 63 (o_getf (e_f1 0 1) 66)) t_37_66
noncomputable def n_37_62 : e_Y := u_ld f_okA f_l0 n_37_63
theorem t_37_62 : e_Sn 37 62 (e_un n_37_62) := u_ldAT f_l0_eq (s_aload (i := .aload_n 0) (len := 1) hq_37 (by decide +kernel) rfl (.inr ⟨0, rfl, rfl, rfl⟩) : e_Sn 37 62 (o_load e_okR 0 63)) t_37_63
noncomputable def n_37_59 : e_Y := n_37_77
theorem t_37_59 : e_Sn 37 59 (e_un n_37_59) := u_gotoT (s_goto (off := (18)) hq_37 (by decide +kernel) rfl : e_Sn 37 59 (o_goto 77)) t_37_77
noncomputable def n_37_58 : e_Y := u_ald 2 (u_old (o_aldO 2 59) n_37_59) n_37_59
theorem t_37_58 : e_Sn 37 58 (e_un n_37_58) := u_aldOT (s_lald hq_37 (by decide +kernel) rfl : e_Sn 37 58 (o_aldO 2 59)) t_37_59
noncomputable def n_37_57 : e_Y := u_ld f_okI f_l1 n_37_58
theorem t_37_57 : e_Sn 37 57 (e_un n_37_57) := u_ldIT f_l1_eq (s_iload (i := .iload_n 1) (len := 1) hq_37 (by decide +kernel) rfl (.inr ⟨1, rfl, rfl, rfl⟩) : e_Sn 37 57 (o_load e_okI 1 58)) t_37_58
noncomputable def n_37_54 : e_Y := u_getf 5 0 (u_old (o_getf (e_f1 5 0) 57) n_37_57) n_37_57
theorem t_37_54 : e_Sn 37 54 (e_un n_37_54) := u_getfT (s_getf (C := er_5) (T := et_5) (N := 5) (ref := "Plateroomprinter$Matrix") (index := 282) (ci := 5) (k := 0) hq_37 ho_37 ⟨rfl, by decide, ei_5, (List.mem_of_getElem? (i := 262) (by decide +kernel)), .inl rfl⟩ (by decide +kernel) rfl : e_Sn 37 54 (o_getf (e_f1 5 0) 57)) t_37_57
noncomputable def n_37_51 : e_Y := u_getf 10 0 (u_old (o_getf (e_f1 10 0) 54) n_37_54) n_37_54
theorem t_37_51 : e_Sn 37 51 (e_un n_37_51) := u_getfT (s_getf (C := er_10) (T := et_10) (N := 11) (ref := "Plateroomprinter$State") (index := 278) (ci := 10) (k := 0) hq_37 ho_37 ⟨rfl, by decide, ei_10, (List.mem_of_getElem? (i := 318) (by decide +kernel)), .inl rfl⟩ (by decide +kernel) rfl : e_Sn 37 51 (o_getf (e_f1 10 0) 54)) t_37_54
noncomputable def n_37_48 : e_Y := u_getf 11 2 (u_old (o_getf (e_f1 11 2) 51) n_37_51) n_37_51
theorem t_37_48 : e_Sn 37 48 (e_un n_37_48) := u_getfT (s_getf (C := er_11) (T := et_11) (N := 15) (ref := "Plateroomprinter$World") (index := 221) (ci := 11) (k := 2) hq_37 ho_37 ⟨rfl, by decide, ei_11, (List.mem_of_getElem? (i := 467) (by decide +kernel)), .inl rfl⟩ (by decide +kernel) rfl : e_Sn 37 48 (o_getf (e_f1 11 2) 51)) t_37_51
noncomputable def n_37_45 : e_Y := u_getf 0 1 (u_old (o_getf (e_f1 0 1) 48) n_37_48) n_37_48
theorem t_37_45 : e_Sn 37 45 (e_un n_37_45) := u_getfT (s_getf (C := er_0) (T := et_0) (N := 17) (ref := "Plateroomprinter") (index := 19) (ci := 0) (k := 1) hq_37 ho_37 ⟨rfl, by decide, ei_0, (List.mem_of_getElem? (i := 681) (by decide +kernel)), .inl rfl⟩ (by decide +kernel) rfl : e_Sn 37 45 (o_getf (e_f1 0 1) 48)) t_37_48
noncomputable def n_37_44 : e_Y := u_ld f_okA f_l0 n_37_45
theorem t_37_44 : e_Sn 37 44 (e_un n_37_44) := u_ldAT f_l0_eq (s_aload (i := .aload_n 0) (len := 1) hq_37 (by decide +kernel) rfl (.inr ⟨0, rfl, rfl, rfl⟩) : e_Sn 37 44 (o_load e_okR 0 45)) t_37_45
noncomputable def n_37_41 : e_Y := u_if y_ne0 (u_old2 (o_ifeq 44 62) 44 n_37_44 n_37_62) n_37_44 n_37_62
theorem t_37_41 : e_Sn 37 41 (e_un n_37_41) := u_ifeqT rfl (s_ifne (off := (21)) hq_37 (by decide +kernel) rfl rfl : e_Sn 37 41 (o_ifeq 44 62)) t_37_44 t_37_62
noncomputable def n_37_40 : e_Y := u_ld f_okI f_l2 n_37_41
theorem t_37_40 : e_Sn 37 40 (e_un n_37_40) := u_ldIT f_l2_eq (s_iload (i := .iload_n 2) (len := 1) hq_37 (by decide +kernel) rfl (.inr ⟨2, rfl, rfl, rfl⟩) : e_Sn 37 40 (o_load e_okI 2 41)) t_37_41
noncomputable def n_37_29 : e_Y := u_tab (o_throw 0)
theorem t_37_29 : e_Sn 37 29 (e_un n_37_29) := u_tabT (s_throw (ik := 94) (is := 276) (ic := 98) (X := "java/lang/IllegalArgumentException") (text := "part is 0 or 1") hq_37 ho_37 hy_37 hc_37 rfl (by decide +kernel) e_wok0 (by simp [e_sr]) (by decide +kernel) (by decide +kernel) (.inr ⟨(by decide +kernel), (by decide +kernel), (by decide +kernel)⟩) : e_Sn 37 29 (o_throw 0))
noncomputable def n_37_26 : e_Y := u_jmp y_le (u_old2 (o_cgt 29 40) 29 n_37_29 n_37_40) n_37_29 n_37_40
theorem t_37_26 : e_Sn 37 26 (e_un n_37_26) := u_cgtT rfl (s_cle (off := (14)) hq_37 (by decide +kernel) rfl rfl : e_Sn 37 26 (o_cgt 29 40)) t_37_29 t_37_40
noncomputable def n_37_25 : e_Y := u_push (.inl 2147483649) n_37_26
theorem t_37_25 : e_Sn 37 25 (e_un n_37_25) := u_pushT (s_iconst (n := (1)) hq_37 (by decide +kernel) rfl ⟨by decide +kernel, by decide +kernel⟩ : e_Sn 37 25 (o_push (.inl 2147483649) 26)) t_37_26
noncomputable def n_37_24 : e_Y := u_ld f_okI f_l2 n_37_25
theorem t_37_24 : e_Sn 37 24 (e_un n_37_24) := u_ldIT f_l2_eq (s_iload (i := .iload_n 2) (len := 1) hq_37 (by decide +kernel) rfl (.inr ⟨2, rfl, rfl, rfl⟩) : e_Sn 37 24 (o_load e_okI 2 25)) t_37_25
noncomputable def n_37_21 : e_Y := u_if y_ge0 (u_old2 (o_iflt 29 24) 29 n_37_29 n_37_24) n_37_29 n_37_24
theorem t_37_21 : e_Sn 37 21 (e_un n_37_21) := u_ifltT rfl (s_iflt (off := (8)) hq_37 (by decide +kernel) rfl rfl : e_Sn 37 21 (o_iflt 29 24)) t_37_29 t_37_24
noncomputable def n_37_20 : e_Y := u_ld f_okI f_l2 n_37_21
theorem t_37_20 : e_Sn 37 20 (e_un n_37_20) := u_ldIT f_l2_eq (s_iload (i := .iload_n 2) (len := 1) hq_37 (by decide +kernel) rfl (.inr ⟨2, rfl, rfl, rfl⟩) : e_Sn 37 20 (o_load e_okI 2 21)) t_37_21
noncomputable def n_37_9 : e_Y := u_tab (o_throw 2)
theorem t_37_9 : e_Sn 37 9 (e_un n_37_9) := u_tabT (s_throw (ik := 175) (is := 274) (ic := 179) (X := "java/lang/IndexOutOfBoundsException") (text := "no such entry") hq_37 ho_37 hy_37 hc_37 rfl (by decide +kernel) e_wok2 (by simp [e_sr]) (by decide +kernel) (by decide +kernel) (.inr ⟨(by decide +kernel), (by decide +kernel), (by decide +kernel)⟩) : e_Sn 37 9 (o_throw 2))
noncomputable def n_37_6 : e_Y := u_jmp y_le (u_old2 (o_cgt 9 20) 9 n_37_9 n_37_20) n_37_9 n_37_20
theorem t_37_6 : e_Sn 37 6 (e_un n_37_6) := u_cgtT rfl (s_cle (off := (14)) hq_37 (by decide +kernel) rfl rfl : e_Sn 37 6 (o_cgt 9 20)) t_37_9 t_37_20
noncomputable def n_37_5 : e_Y := u_push (.inl 2147483653) n_37_6
theorem t_37_5 : e_Sn 37 5 (e_un n_37_5) := u_pushT (s_iconst (n := (5)) hq_37 (by decide +kernel) rfl ⟨by decide +kernel, by decide +kernel⟩ : e_Sn 37 5 (o_push (.inl 2147483653) 6)) t_37_6
noncomputable def n_37_4 : e_Y := u_ld f_okI f_l1 n_37_5
theorem t_37_4 : e_Sn 37 4 (e_un n_37_4) := u_ldIT f_l1_eq (s_iload (i := .iload_n 1) (len := 1) hq_37 (by decide +kernel) rfl (.inr ⟨1, rfl, rfl, rfl⟩) : e_Sn 37 4 (o_load e_okI 1 5)) t_37_5
noncomputable def n_37_1 : e_Y := u_if y_ge0 (u_old2 (o_iflt 9 4) 9 n_37_9 n_37_4) n_37_9 n_37_4
theorem t_37_1 : e_Sn 37 1 (e_un n_37_1) := u_ifltT rfl (s_iflt (off := (8)) hq_37 (by decide +kernel) rfl rfl : e_Sn 37 1 (o_iflt 9 4)) t_37_9 t_37_4
noncomputable def n_37_0 : e_Y := u_ld f_okI f_l1 n_37_1
theorem t_37_0 : e_Sn 37 0 (e_un n_37_0) := u_ldIT f_l1_eq (s_iload (i := .iload_n 1) (len := 1) hq_37 (by decide +kernel) rfl (.inr ⟨1, rfl, rfl, rfl⟩) : e_Sn 37 0 (o_load e_okI 1 1)) t_37_1
noncomputable def e_tb_37 : e_X := (e_lf 0 (e_un n_37_0))
theorem e_tk_37 : e_Tb 37 e_tb_37 := (e_lfT t_37_0)
theorem hq_51 : (e_ml[51]?).map (·.2.1) = some prog_1_method_19_code := rfl
theorem ho_51 : (e_ml[51]?).map (·.1.cls) = some "Plateroomprinter" := rfl
theorem hr_51 : (e_ml[51]?).map (·.2.2.2) = some (some .int) := rfl
noncomputable def n_51_191 : e_Y := u_tab (o_throw 0)
theorem t_51_191 : e_Sn 51 191 (e_un n_51_191) := u_tabT (s_throw (ik := 94) (is := 272) (ic := 98) (X := "java/lang/IllegalArgumentException") (text := "what is 0 to 14") hq_51 ho_51 hy_51 hc_51 rfl (by decide +kernel) e_wok0 (by simp [e_sr]) (by decide +kernel) (by decide +kernel) (.inr ⟨(by decide +kernel), (by decide +kernel), (by decide +kernel)⟩) : e_Sn 51 191 (o_throw 0))
noncomputable def n_51_190 : e_Y := u_retI
theorem t_51_190 : e_Sn 51 190 (e_un n_51_190) := u_retIT (s_iret hq_51 hr_51 (by decide +kernel) : e_Sn 51 190 (o_ret e_okI))
noncomputable def n_51_187 : e_Y := u_getf 11 4 (u_old (o_getf (e_f1 11 4) 190) n_51_190) n_51_190
theorem t_51_187 : e_Sn 51 187 (e_un n_51_187) := u_getfT (s_getf (C := er_11) (T := et_11) (N := 15) (ref := "Plateroomprinter$World") (index := 269) (ci := 11) (k := 4) hq_51 ho_51 ⟨rfl, by decide, ei_11, (List.mem_of_getElem? (i := 472) (by decide +kernel)), .inl rfl⟩ (by decide +kernel) rfl : e_Sn 51 187 (o_getf (e_f1 11 4) 190)) t_51_190
noncomputable def n_51_184 : e_Y := u_getf 0 1 (u_old (o_getf (e_f1 0 1) 187) n_51_187) n_51_187
theorem t_51_184 : e_Sn 51 184 (e_un n_51_184) := u_getfT (s_getf (C := er_0) (T := et_0) (N := 17) (ref := "Plateroomprinter") (index := 19) (ci := 0) (k := 1) hq_51 ho_51 ⟨rfl, by decide, ei_0, (List.mem_of_getElem? (i := 681) (by decide +kernel)), .inl rfl⟩ (by decide +kernel) rfl : e_Sn 51 184 (o_getf (e_f1 0 1) 187)) t_51_187
noncomputable def n_51_183 : e_Y := u_ld f_okA f_l0 n_51_184
theorem t_51_183 : e_Sn 51 183 (e_un n_51_183) := u_ldAT f_l0_eq (s_aload (i := .aload_n 0) (len := 1) hq_51 (by decide +kernel) rfl (.inr ⟨0, rfl, rfl, rfl⟩) : e_Sn 51 183 (o_load e_okR 0 184)) t_51_184
noncomputable def n_51_182 : e_Y := u_retI
theorem t_51_182 : e_Sn 51 182 (e_un n_51_182) := u_retIT (s_iret hq_51 hr_51 (by decide +kernel) : e_Sn 51 182 (o_ret e_okI))
noncomputable def n_51_179 : e_Y := u_callS 3 4 23 2 n_3_0 n_51_182
theorem t_51_179 : e_Sn 51 179 (e_un n_51_179) := u_callST rfl (s_callS (index := 265) hq_51 ho_51 hy_3 hp_3 hc_3 hi_3 hd_3 (List.mem_of_getElem? (i := 1266) (by decide +kernel)) hs_3 (by decide +kernel) rfl : e_Sn 51 179 (o_callS 3 4 2 182)) t_3_0 t_51_182
noncomputable def n_51_178 : e_Y := u_push (.inl 2147483648) n_51_179
theorem t_51_178 : e_Sn 51 178 (e_un n_51_178) := u_pushT (s_iconst (n := (0)) hq_51 (by decide +kernel) rfl ⟨by decide +kernel, by decide +kernel⟩ : e_Sn 51 178 (o_push (.inl 2147483648) 179)) t_51_179
noncomputable def n_51_175 : e_Y := u_getf 10 2 (u_old (o_getf (e_f1 10 2) 178) n_51_178) n_51_178
theorem t_51_175 : e_Sn 51 175 (e_un n_51_175) := u_getfT (s_getf (C := er_10) (T := et_10) (N := 11) (ref := "Plateroomprinter$State") (index := 262) (ci := 10) (k := 2) hq_51 ho_51 ⟨rfl, by decide, ei_10, (List.mem_of_getElem? (i := 323) (by decide +kernel)), .inl rfl⟩ (by decide +kernel) rfl : e_Sn 51 175 (o_getf (e_f1 10 2) 178)) t_51_178
noncomputable def n_51_174 : e_Y := u_ld f_okA f_l2 n_51_175
theorem t_51_174 : e_Sn 51 174 (e_un n_51_174) := u_ldAT f_l2_eq (s_aload (i := .aload_n 2) (len := 1) hq_51 (by decide +kernel) rfl (.inr ⟨2, rfl, rfl, rfl⟩) : e_Sn 51 174 (o_load e_okR 2 175)) t_51_175
noncomputable def n_51_173 : e_Y := u_retI
theorem t_51_173 : e_Sn 51 173 (e_un n_51_173) := u_retIT (s_iret hq_51 hr_51 (by decide +kernel) : e_Sn 51 173 (o_ret e_okI))
noncomputable def n_51_170 : e_Y := u_getf 7 5 (u_old (o_getf (e_f1 7 5) 173) n_51_173) n_51_173
theorem t_51_170 : e_Sn 51 170 (e_un n_51_170) := u_getfT (s_getf (C := er_7) (T := et_7) (N := 6) (ref := "Plateroomprinter$Path") (index := 259) (ci := 7) (k := 5) hq_51 ho_51 ⟨rfl, by decide, ei_7, (List.mem_of_getElem? (i := 302) (by decide +kernel)), .inl rfl⟩ (by decide +kernel) rfl : e_Sn 51 170 (o_getf (e_f1 7 5) 173)) t_51_173
noncomputable def n_51_167 : e_Y := u_getf 10 1 (u_old (o_getf (e_f1 10 1) 170) n_51_170) n_51_170
theorem t_51_167 : e_Sn 51 167 (e_un n_51_167) := u_getfT (s_getf (C := er_10) (T := et_10) (N := 11) (ref := "Plateroomprinter$State") (index := 250) (ci := 10) (k := 1) hq_51 ho_51 ⟨rfl, by decide, ei_10, (List.mem_of_getElem? (i := 321) (by decide +kernel)), .inl rfl⟩ (by decide +kernel) rfl : e_Sn 51 167 (o_getf (e_f1 10 1) 170)) t_51_170
noncomputable def n_51_166 : e_Y := u_ld f_okA f_l2 n_51_167
theorem t_51_166 : e_Sn 51 166 (e_un n_51_166) := u_ldAT f_l2_eq (s_aload (i := .aload_n 2) (len := 1) hq_51 (by decide +kernel) rfl (.inr ⟨2, rfl, rfl, rfl⟩) : e_Sn 51 166 (o_load e_okR 2 167)) t_51_167
noncomputable def n_51_165 : e_Y := u_retI
theorem t_51_165 : e_Sn 51 165 (e_un n_51_165) := u_retIT (s_iret hq_51 hr_51 (by decide +kernel) : e_Sn 51 165 (o_ret e_okI))
noncomputable def n_51_162 : e_Y := u_getf 7 4 (u_old (o_getf (e_f1 7 4) 165) n_51_165) n_51_165
theorem t_51_162 : e_Sn 51 162 (e_un n_51_162) := u_getfT (s_getf (C := er_7) (T := et_7) (N := 6) (ref := "Plateroomprinter$Path") (index := 254) (ci := 7) (k := 4) hq_51 ho_51 ⟨rfl, by decide, ei_7, (List.mem_of_getElem? (i := 298) (by decide +kernel)), .inl rfl⟩ (by decide +kernel) rfl : e_Sn 51 162 (o_getf (e_f1 7 4) 165)) t_51_165
noncomputable def n_51_159 : e_Y := u_getf 10 1 (u_old (o_getf (e_f1 10 1) 162) n_51_162) n_51_162
theorem t_51_159 : e_Sn 51 159 (e_un n_51_159) := u_getfT (s_getf (C := er_10) (T := et_10) (N := 11) (ref := "Plateroomprinter$State") (index := 250) (ci := 10) (k := 1) hq_51 ho_51 ⟨rfl, by decide, ei_10, (List.mem_of_getElem? (i := 321) (by decide +kernel)), .inl rfl⟩ (by decide +kernel) rfl : e_Sn 51 159 (o_getf (e_f1 10 1) 162)) t_51_162
noncomputable def n_51_158 : e_Y := u_ld f_okA f_l2 n_51_159
theorem t_51_158 : e_Sn 51 158 (e_un n_51_158) := u_ldAT f_l2_eq (s_aload (i := .aload_n 2) (len := 1) hq_51 (by decide +kernel) rfl (.inr ⟨2, rfl, rfl, rfl⟩) : e_Sn 51 158 (o_load e_okR 2 159)) t_51_159
noncomputable def n_51_157 : e_Y := u_retI
theorem t_51_157 : e_Sn 51 157 (e_un n_51_157) := u_retIT (s_iret hq_51 hr_51 (by decide +kernel) : e_Sn 51 157 (o_ret e_okI))
noncomputable def n_51_156 : e_Y := u_push (.inl 2147483648) n_51_157
theorem t_51_156 : e_Sn 51 156 (e_un n_51_156) := u_pushT (s_iconst (n := (0)) hq_51 (by decide +kernel) rfl ⟨by decide +kernel, by decide +kernel⟩ : e_Sn 51 156 (o_push (.inl 2147483648) 157)) t_51_157
noncomputable def n_51_146 : e_Y := u_if y_ne0 (u_old2 (o_ifeq 156 149) 156 n_51_156 (u_at 149)) n_51_156 (u_at 149)
theorem t_51_146 : e_Sn 51 146 (e_un n_51_146) := u_ifeqT rfl (s_ifeq (off := (10)) hq_51 (by decide +kernel) rfl rfl : e_Sn 51 146 (o_ifeq 156 149)) t_51_156 u_atT
noncomputable def n_51_143 : e_Y := u_getf 10 4 (u_old (o_getf (e_f1 10 4) 146) n_51_146) n_51_146
theorem t_51_143 : e_Sn 51 143 (e_un n_51_143) := u_getfT (s_getf (C := er_10) (T := et_10) (N := 11) (ref := "Plateroomprinter$State") (index := 240) (ci := 10) (k := 4) hq_51 ho_51 ⟨rfl, by decide, ei_10, (List.mem_of_getElem? (i := 330) (by decide +kernel)), .inl rfl⟩ (by decide +kernel) rfl : e_Sn 51 143 (o_getf (e_f1 10 4) 146)) t_51_146
noncomputable def n_51_142 : e_Y := u_ld f_okA f_l2 n_51_143
theorem t_51_142 : e_Sn 51 142 (e_un n_51_142) := u_ldAT f_l2_eq (s_aload (i := .aload_n 2) (len := 1) hq_51 (by decide +kernel) rfl (.inr ⟨2, rfl, rfl, rfl⟩) : e_Sn 51 142 (o_load e_okR 2 143)) t_51_143
noncomputable def n_51_141 : e_Y := u_retI
theorem t_51_141 : e_Sn 51 141 (e_un n_51_141) := u_retIT (s_iret hq_51 hr_51 (by decide +kernel) : e_Sn 51 141 (o_ret e_okI))
noncomputable def n_51_140 : e_Y := u_push (.inl 2147483648) n_51_141
theorem t_51_140 : e_Sn 51 140 (e_un n_51_140) := u_pushT (s_iconst (n := (0)) hq_51 (by decide +kernel) rfl ⟨by decide +kernel, by decide +kernel⟩ : e_Sn 51 140 (o_push (.inl 2147483648) 141)) t_51_141
noncomputable def n_51_130 : e_Y := u_if y_ne0 (u_old2 (o_ifeq 140 133) 140 n_51_140 (u_at 133)) n_51_140 (u_at 133)
theorem t_51_130 : e_Sn 51 130 (e_un n_51_130) := u_ifeqT rfl (s_ifeq (off := (10)) hq_51 (by decide +kernel) rfl rfl : e_Sn 51 130 (o_ifeq 140 133)) t_51_140 u_atT
noncomputable def n_51_127 : e_Y := u_getf 10 4 (u_old (o_getf (e_f1 10 4) 130) n_51_130) n_51_130
theorem t_51_127 : e_Sn 51 127 (e_un n_51_127) := u_getfT (s_getf (C := er_10) (T := et_10) (N := 11) (ref := "Plateroomprinter$State") (index := 240) (ci := 10) (k := 4) hq_51 ho_51 ⟨rfl, by decide, ei_10, (List.mem_of_getElem? (i := 330) (by decide +kernel)), .inl rfl⟩ (by decide +kernel) rfl : e_Sn 51 127 (o_getf (e_f1 10 4) 130)) t_51_130
noncomputable def n_51_126 : e_Y := u_ld f_okA f_l2 n_51_127
theorem t_51_126 : e_Sn 51 126 (e_un n_51_126) := u_ldAT f_l2_eq (s_aload (i := .aload_n 2) (len := 1) hq_51 (by decide +kernel) rfl (.inr ⟨2, rfl, rfl, rfl⟩) : e_Sn 51 126 (o_load e_okR 2 127)) t_51_127
noncomputable def n_51_125 : e_Y := u_retI
theorem t_51_125 : e_Sn 51 125 (e_un n_51_125) := u_retIT (s_iret hq_51 hr_51 (by decide +kernel) : e_Sn 51 125 (o_ret e_okI))
noncomputable def n_51_124 : e_Y := u_push (.inl 2147483648) n_51_125
theorem t_51_124 : e_Sn 51 124 (e_un n_51_124) := u_pushT (s_iconst (n := (0)) hq_51 (by decide +kernel) rfl ⟨by decide +kernel, by decide +kernel⟩ : e_Sn 51 124 (o_push (.inl 2147483648) 125)) t_51_125
noncomputable def n_51_117 : e_Y := u_if y_ne0 (u_old2 (o_ifeq 124 120) 124 n_51_124 (u_at 120)) n_51_124 (u_at 120)
theorem t_51_117 : e_Sn 51 117 (e_un n_51_117) := u_ifeqT rfl (s_ifeq (off := (7)) hq_51 (by decide +kernel) rfl rfl : e_Sn 51 117 (o_ifeq 124 120)) t_51_124 u_atT
noncomputable def n_51_114 : e_Y := u_getf 10 4 (u_old (o_getf (e_f1 10 4) 117) n_51_117) n_51_117
theorem t_51_114 : e_Sn 51 114 (e_un n_51_114) := u_getfT (s_getf (C := er_10) (T := et_10) (N := 11) (ref := "Plateroomprinter$State") (index := 240) (ci := 10) (k := 4) hq_51 ho_51 ⟨rfl, by decide, ei_10, (List.mem_of_getElem? (i := 330) (by decide +kernel)), .inl rfl⟩ (by decide +kernel) rfl : e_Sn 51 114 (o_getf (e_f1 10 4) 117)) t_51_117
noncomputable def n_51_113 : e_Y := u_ld f_okA f_l2 n_51_114
theorem t_51_113 : e_Sn 51 113 (e_un n_51_113) := u_ldAT f_l2_eq (s_aload (i := .aload_n 2) (len := 1) hq_51 (by decide +kernel) rfl (.inr ⟨2, rfl, rfl, rfl⟩) : e_Sn 51 113 (o_load e_okR 2 114)) t_51_114
noncomputable def n_51_112 : e_Y := u_retI
theorem t_51_112 : e_Sn 51 112 (e_un n_51_112) := u_retIT (s_iret hq_51 hr_51 (by decide +kernel) : e_Sn 51 112 (o_ret e_okI))
noncomputable def n_51_111 : e_Y := u_ald 0 (u_old (o_ald e_fcs 112) n_51_112) n_51_112
theorem t_51_111 : e_Sn 51 111 (e_un n_51_111) := u_aldT (s_iald hq_51 (by decide +kernel) rfl : e_Sn 51 111 (o_ald e_fcs 112)) t_51_112
noncomputable def n_51_110 : e_Y := u_bin a_isub (u_old (o_isub 111) n_51_111) n_51_111
theorem t_51_110 : e_Sn 51 110 (e_un n_51_110) := u_isubT (s_isub hq_51 (by decide +kernel) rfl : e_Sn 51 110 (o_isub 111)) t_51_111
noncomputable def n_51_109 : e_Y := u_push (.inl 2147483652) n_51_110
theorem t_51_109 : e_Sn 51 109 (e_un n_51_109) := u_pushT (s_iconst (n := (4)) hq_51 (by decide +kernel) rfl ⟨by decide +kernel, by decide +kernel⟩ : e_Sn 51 109 (o_push (.inl 2147483652) 110)) t_51_110
noncomputable def n_51_108 : e_Y := u_ld f_okI f_l1 n_51_109
theorem t_51_108 : e_Sn 51 108 (e_un n_51_108) := u_ldIT f_l1_eq (s_iload (i := .iload_n 1) (len := 1) hq_51 (by decide +kernel) rfl (.inr ⟨1, rfl, rfl, rfl⟩) : e_Sn 51 108 (o_load e_okI 1 109)) t_51_109
noncomputable def n_51_105 : e_Y := u_getf 10 3 (u_old (o_getf (e_f1 10 3) 108) n_51_108) n_51_108
theorem t_51_105 : e_Sn 51 105 (e_un n_51_105) := u_getfT (s_getf (C := er_10) (T := et_10) (N := 11) (ref := "Plateroomprinter$State") (index := 237) (ci := 10) (k := 3) hq_51 ho_51 ⟨rfl, by decide, ei_10, (List.mem_of_getElem? (i := 327) (by decide +kernel)), .inl rfl⟩ (by decide +kernel) rfl : e_Sn 51 105 (o_getf (e_f1 10 3) 108)) t_51_108
noncomputable def n_51_104 : e_Y := u_ld f_okA f_l2 n_51_105
theorem t_51_104 : e_Sn 51 104 (e_un n_51_104) := u_ldAT f_l2_eq (s_aload (i := .aload_n 2) (len := 1) hq_51 (by decide +kernel) rfl (.inr ⟨2, rfl, rfl, rfl⟩) : e_Sn 51 104 (o_load e_okR 2 105)) t_51_105
noncomputable def n_51_103 : e_Y := u_retI
theorem t_51_103 : e_Sn 51 103 (e_un n_51_103) := u_retIT (s_iret hq_51 hr_51 (by decide +kernel) : e_Sn 51 103 (o_ret e_okI))
noncomputable def n_51_100 : e_Y := u_getf 10 10 (u_old (o_getf (e_f1 10 10) 103) n_51_103) n_51_103
theorem t_51_100 : e_Sn 51 100 (e_un n_51_100) := u_getfT (s_getf (C := er_10) (T := et_10) (N := 11) (ref := "Plateroomprinter$State") (index := 236) (ci := 10) (k := 10) hq_51 ho_51 ⟨rfl, by decide, ei_10, (List.mem_of_getElem? (i := 348) (by decide +kernel)), .inl rfl⟩ (by decide +kernel) rfl : e_Sn 51 100 (o_getf (e_f1 10 10) 103)) t_51_103
noncomputable def n_51_99 : e_Y := u_ld f_okA f_l2 n_51_100
theorem t_51_99 : e_Sn 51 99 (e_un n_51_99) := u_ldAT f_l2_eq (s_aload (i := .aload_n 2) (len := 1) hq_51 (by decide +kernel) rfl (.inr ⟨2, rfl, rfl, rfl⟩) : e_Sn 51 99 (o_load e_okR 2 100)) t_51_100
noncomputable def n_51_98 : e_Y := u_retI
theorem t_51_98 : e_Sn 51 98 (e_un n_51_98) := u_retIT (s_iret hq_51 hr_51 (by decide +kernel) : e_Sn 51 98 (o_ret e_okI))
noncomputable def n_51_95 : e_Y := u_getf 10 9 (u_old (o_getf (e_f1 10 9) 98) n_51_98) n_51_98
theorem t_51_95 : e_Sn 51 95 (e_un n_51_95) := u_getfT (s_getf (C := er_10) (T := et_10) (N := 11) (ref := "Plateroomprinter$State") (index := 233) (ci := 10) (k := 9) hq_51 ho_51 ⟨rfl, by decide, ei_10, (List.mem_of_getElem? (i := 345) (by decide +kernel)), .inl rfl⟩ (by decide +kernel) rfl : e_Sn 51 95 (o_getf (e_f1 10 9) 98)) t_51_98
noncomputable def n_51_94 : e_Y := u_ld f_okA f_l2 n_51_95
theorem t_51_94 : e_Sn 51 94 (e_un n_51_94) := u_ldAT f_l2_eq (s_aload (i := .aload_n 2) (len := 1) hq_51 (by decide +kernel) rfl (.inr ⟨2, rfl, rfl, rfl⟩) : e_Sn 51 94 (o_load e_okR 2 95)) t_51_95
noncomputable def n_51_93 : e_Y := u_retI
theorem t_51_93 : e_Sn 51 93 (e_un n_51_93) := u_retIT (s_iret hq_51 hr_51 (by decide +kernel) : e_Sn 51 93 (o_ret e_okI))
noncomputable def n_51_90 : e_Y := u_getf 10 8 (u_old (o_getf (e_f1 10 8) 93) n_51_93) n_51_93
theorem t_51_90 : e_Sn 51 90 (e_un n_51_90) := u_getfT (s_getf (C := er_10) (T := et_10) (N := 11) (ref := "Plateroomprinter$State") (index := 230) (ci := 10) (k := 8) hq_51 ho_51 ⟨rfl, by decide, ei_10, (List.mem_of_getElem? (i := 342) (by decide +kernel)), .inl rfl⟩ (by decide +kernel) rfl : e_Sn 51 90 (o_getf (e_f1 10 8) 93)) t_51_93
noncomputable def n_51_89 : e_Y := u_ld f_okA f_l2 n_51_90
theorem t_51_89 : e_Sn 51 89 (e_un n_51_89) := u_ldAT f_l2_eq (s_aload (i := .aload_n 2) (len := 1) hq_51 (by decide +kernel) rfl (.inr ⟨2, rfl, rfl, rfl⟩) : e_Sn 51 89 (o_load e_okR 2 90)) t_51_90
noncomputable def n_51_88 : e_Y := u_retI
theorem t_51_88 : e_Sn 51 88 (e_un n_51_88) := u_retIT (s_iret hq_51 hr_51 (by decide +kernel) : e_Sn 51 88 (o_ret e_okI))
noncomputable def n_51_85 : e_Y := u_getf 10 7 (u_old (o_getf (e_f1 10 7) 88) n_51_88) n_51_88
theorem t_51_85 : e_Sn 51 85 (e_un n_51_85) := u_getfT (s_getf (C := er_10) (T := et_10) (N := 11) (ref := "Plateroomprinter$State") (index := 225) (ci := 10) (k := 7) hq_51 ho_51 ⟨rfl, by decide, ei_10, (List.mem_of_getElem? (i := 339) (by decide +kernel)), .inl rfl⟩ (by decide +kernel) rfl : e_Sn 51 85 (o_getf (e_f1 10 7) 88)) t_51_88
noncomputable def n_51_84 : e_Y := u_ld f_okA f_l2 n_51_85
theorem t_51_84 : e_Sn 51 84 (e_un n_51_84) := u_ldAT f_l2_eq (s_aload (i := .aload_n 2) (len := 1) hq_51 (by decide +kernel) rfl (.inr ⟨2, rfl, rfl, rfl⟩) : e_Sn 51 84 (o_load e_okR 2 85)) t_51_85
noncomputable def n_51_9 : e_Y := u_tab (o_switch 2147483648 [84, 89, 94, 99, 104, 104, 104, 104, 113, 126, 142, 158, 166, 174, 183] 191)
theorem t_51_9 : e_Sn 51 9 (e_un n_51_9) := u_tabT (s_switch (dflt := (182)) (low := (0)) (hi := (14)) (offs := #[(75), (80), (85), (90), (95), (95), (95), (95), (104), (117), (133), (149), (157), (165), (174)]) (len := 75) hq_51 (by decide +kernel) rfl rfl rfl rfl : e_Sn 51 9 (o_switch 2147483648 [84, 89, 94, 99, 104, 104, 104, 104, 113, 126, 142, 158, 166, 174, 183] 191))
noncomputable def n_51_8 : e_Y := u_ld f_okI f_l1 n_51_9
theorem t_51_8 : e_Sn 51 8 (e_un n_51_8) := u_ldIT f_l1_eq (s_iload (i := .iload_n 1) (len := 1) hq_51 (by decide +kernel) rfl (.inr ⟨1, rfl, rfl, rfl⟩) : e_Sn 51 8 (o_load e_okI 1 9)) t_51_9
noncomputable def n_51_7 : e_Y := u_st f_okA f_s2 n_51_8
theorem t_51_7 : e_Sn 51 7 (e_un n_51_7) := u_stAT (fun _ _ _ => f_s2_eq) (s_astore (i := .astore_n 2) (len := 1) hq_51 (by decide +kernel) rfl (.inr ⟨2, rfl, rfl, rfl⟩) : e_Sn 51 7 (o_store e_okR 2 8)) t_51_8
noncomputable def n_51_4 : e_Y := u_getf 11 2 (u_old (o_getf (e_f1 11 2) 7) n_51_7) n_51_7
theorem t_51_4 : e_Sn 51 4 (e_un n_51_4) := u_getfT (s_getf (C := er_11) (T := et_11) (N := 15) (ref := "Plateroomprinter$World") (index := 221) (ci := 11) (k := 2) hq_51 ho_51 ⟨rfl, by decide, ei_11, (List.mem_of_getElem? (i := 467) (by decide +kernel)), .inl rfl⟩ (by decide +kernel) rfl : e_Sn 51 4 (o_getf (e_f1 11 2) 7)) t_51_7
noncomputable def n_51_1 : e_Y := u_getf 0 1 (u_old (o_getf (e_f1 0 1) 4) n_51_4) n_51_4
theorem t_51_1 : e_Sn 51 1 (e_un n_51_1) := u_getfT (s_getf (C := er_0) (T := et_0) (N := 17) (ref := "Plateroomprinter") (index := 19) (ci := 0) (k := 1) hq_51 ho_51 ⟨rfl, by decide, ei_0, (List.mem_of_getElem? (i := 681) (by decide +kernel)), .inl rfl⟩ (by decide +kernel) rfl : e_Sn 51 1 (o_getf (e_f1 0 1) 4)) t_51_4
noncomputable def n_51_0 : e_Y := u_ld f_okA f_l0 n_51_1
theorem t_51_0 : e_Sn 51 0 (e_un n_51_0) := u_ldAT f_l0_eq (s_aload (i := .aload_n 0) (len := 1) hq_51 (by decide +kernel) rfl (.inr ⟨0, rfl, rfl, rfl⟩) : e_Sn 51 0 (o_load e_okR 0 1)) t_51_1
noncomputable def e_tb_51 : e_X := (e_br 126 (e_br 94 (e_br 84 (e_lf 0 (e_un n_51_0)) (e_br 89 (e_lf 84 (e_un n_51_84)) (e_lf 89 (e_un n_51_89)))) (e_br 104 (e_br 99 (e_lf 94 (e_un n_51_94)) (e_lf 99 (e_un n_51_99))) (e_br 113 (e_lf 104 (e_un n_51_104)) (e_lf 113 (e_un n_51_113))))) (e_br 166 (e_br 142 (e_lf 126 (e_un n_51_126)) (e_br 158 (e_lf 142 (e_un n_51_142)) (e_lf 158 (e_un n_51_158)))) (e_br 183 (e_br 174 (e_lf 166 (e_un n_51_166)) (e_lf 174 (e_un n_51_174))) (e_br 191 (e_lf 183 (e_un n_51_183)) (e_lf 191 (e_un n_51_191))))))
theorem e_tk_51 : e_Tb 51 e_tb_51 := (e_brT (e_brT (e_brT (e_lfT t_51_0) (e_brT (e_lfT t_51_84) (e_lfT t_51_89))) (e_brT (e_brT (e_lfT t_51_94) (e_lfT t_51_99)) (e_brT (e_lfT t_51_104) (e_lfT t_51_113)))) (e_brT (e_brT (e_lfT t_51_126) (e_brT (e_lfT t_51_142) (e_lfT t_51_158))) (e_brT (e_brT (e_lfT t_51_166) (e_lfT t_51_174)) (e_brT (e_lfT t_51_183) (e_lfT t_51_191)))))
theorem hq_11 : (e_ml[11]?).map (·.2.1) = some prog_1_method_60_code := rfl
theorem ho_11 : (e_ml[11]?).map (·.1.cls) = some "Plateroomprinter" := rfl
theorem hr_11 : (e_ml[11]?).map (·.2.2.2) = some (some .long) := rfl
noncomputable def n_11_79 : e_Y := u_tab (o_ret e_okL)
theorem t_11_79 : e_Sn 11 79 (e_un n_11_79) := u_tabT (s_lret hq_11 hr_11 (by decide +kernel) : e_Sn 11 79 (o_ret e_okL))
noncomputable def n_11_78 : e_Y := u_old (o_load e_okL 3 79) n_11_79
theorem t_11_78 : e_Sn 11 78 (e_un n_11_78) := u_oldT (s_lload (i := .lload_n 3) (len := 1) hq_11 (by decide +kernel) rfl (.inr ⟨3, rfl, rfl, rfl⟩) : e_Sn 11 78 (o_load e_okL 3 79)) t_11_79 e_congr_load
noncomputable def n_11_75 : e_Y := (u_at 35)
theorem t_11_75 : e_Sn 11 75 (e_un n_11_75) := u_gotoT (s_goto (off := (-40)) hq_11 (by decide +kernel) rfl : e_Sn 11 75 (o_goto 35)) u_atT
noncomputable def n_11_72 : e_Y := u_inc f_l5 f_s5 1 n_11_75
theorem t_11_72 : e_Sn 11 72 (e_un n_11_72) := u_incT f_l5_eq (fun _ _ _ => f_s5_eq) (s_iinc (zz := (1)) hq_11 (by decide +kernel) rfl (by decide +kernel) ⟨by decide, by decide⟩ : e_Sn 11 72 (o_iinc 5 1 75)) t_11_75
noncomputable def n_11_71 : e_Y := u_old (o_storeL 3 72) n_11_72
theorem t_11_71 : e_Sn 11 71 (e_un n_11_71) := u_oldT (s_lstore (i := .lstore_n 3) (len := 1) hq_11 (by decide +kernel) rfl (.inr ⟨3, rfl, rfl, rfl⟩) : e_Sn 11 71 (o_storeL 3 72)) t_11_72 (e_cg_storeL 3)
noncomputable def n_11_70 : e_Y := u_old (o_ladd 71) n_11_71
theorem t_11_70 : e_Sn 11 70 (e_un n_11_70) := u_oldT (s_ladd hq_11 (by decide +kernel) rfl : e_Sn 11 70 (o_ladd 71)) t_11_71 e_cg_ladd
noncomputable def n_11_69 : e_Y := u_old (o_i2l 70) n_11_70
theorem t_11_69 : e_Sn 11 69 (e_un n_11_69) := u_oldT (s_i2l hq_11 (by decide +kernel) rfl : e_Sn 11 69 (o_i2l 70)) t_11_70 e_congr_i2l
noncomputable def n_11_66 : e_Y := u_callV 0 37 3 22 3 n_37_0 n_11_69
theorem t_11_66 : e_Sn 11 66 (e_un n_11_66) := u_callVT rfl (s_callV (ci := 0) (C := er_0) (T := et_0) (N := 17) (index := 525) hq_11 ho_11 hy_37 hp_37 hc_37 hi_37 hd_37 (List.mem_of_getElem? (i := 1500) (by decide +kernel)) hs_37 (List.mem_of_getElem? (i := 1502) (by decide +kernel)) rfl (by decide +kernel) rfl : e_Sn 11 66 (o_callV (e_s1 0 37 3) 3 69)) t_37_0 t_11_69
noncomputable def n_11_65 : e_Y := u_push (.inl 2147483649) n_11_66
theorem t_11_65 : e_Sn 11 65 (e_un n_11_65) := u_pushT (s_iconst (n := (1)) hq_11 (by decide +kernel) rfl ⟨by decide +kernel, by decide +kernel⟩ : e_Sn 11 65 (o_push (.inl 2147483649) 66)) t_11_66
noncomputable def n_11_63 : e_Y := u_ld f_okI f_l5 n_11_65
theorem t_11_63 : e_Sn 11 63 (e_un n_11_63) := u_ldIT f_l5_eq (s_iload (i := .iload 5) (len := 2) hq_11 (by decide +kernel) rfl (.inl ⟨rfl, rfl⟩) : e_Sn 11 63 (o_load e_okI 5 65)) t_11_65
noncomputable def n_11_62 : e_Y := u_ld f_okA f_l0 n_11_63
theorem t_11_62 : e_Sn 11 62 (e_un n_11_62) := u_ldAT f_l0_eq (s_aload (i := .aload_n 0) (len := 1) hq_11 (by decide +kernel) rfl (.inr ⟨0, rfl, rfl, rfl⟩) : e_Sn 11 62 (o_load e_okR 0 63)) t_11_63
noncomputable def n_11_61 : e_Y := u_old (o_lmul 62) n_11_62
theorem t_11_61 : e_Sn 11 61 (e_un n_11_61) := u_oldT (s_lmul hq_11 (by decide +kernel) rfl : e_Sn 11 61 (o_lmul 62)) t_11_62 e_cg_lmul
noncomputable def n_11_58 : e_Y := u_push (e_L 9223372036854775839) n_11_61
theorem t_11_58 : e_Sn 11 58 (e_un n_11_58) := u_pushT (s_ldc2 (index := 470) (v := (31)) hq_11 ho_11 (List.mem_of_getElem? (i := 1449) (by decide +kernel)) (by decide +kernel) rfl ⟨by decide +kernel, by decide +kernel⟩ : e_Sn 11 58 (o_push (e_L 9223372036854775839) 61)) t_11_61
noncomputable def n_11_57 : e_Y := u_old (o_load e_okL 3 58) n_11_58
theorem t_11_57 : e_Sn 11 57 (e_un n_11_57) := u_oldT (s_lload (i := .lload_n 3) (len := 1) hq_11 (by decide +kernel) rfl (.inr ⟨3, rfl, rfl, rfl⟩) : e_Sn 11 57 (o_load e_okL 3 58)) t_11_58 e_congr_load
noncomputable def n_11_56 : e_Y := u_old (o_storeL 3 57) n_11_57
theorem t_11_56 : e_Sn 11 56 (e_un n_11_56) := u_oldT (s_lstore (i := .lstore_n 3) (len := 1) hq_11 (by decide +kernel) rfl (.inr ⟨3, rfl, rfl, rfl⟩) : e_Sn 11 56 (o_storeL 3 57)) t_11_57 (e_cg_storeL 3)
noncomputable def n_11_55 : e_Y := u_old (o_ladd 56) n_11_56
theorem t_11_55 : e_Sn 11 55 (e_un n_11_55) := u_oldT (s_ladd hq_11 (by decide +kernel) rfl : e_Sn 11 55 (o_ladd 56)) t_11_56 e_cg_ladd
noncomputable def n_11_54 : e_Y := u_old (o_i2l 55) n_11_55
theorem t_11_54 : e_Sn 11 54 (e_un n_11_54) := u_oldT (s_i2l hq_11 (by decide +kernel) rfl : e_Sn 11 54 (o_i2l 55)) t_11_55 e_congr_i2l
noncomputable def n_11_51 : e_Y := u_callV 0 37 3 22 3 n_37_0 n_11_54
theorem t_11_51 : e_Sn 11 51 (e_un n_11_51) := u_callVT rfl (s_callV (ci := 0) (C := er_0) (T := et_0) (N := 17) (index := 525) hq_11 ho_11 hy_37 hp_37 hc_37 hi_37 hd_37 (List.mem_of_getElem? (i := 1500) (by decide +kernel)) hs_37 (List.mem_of_getElem? (i := 1502) (by decide +kernel)) rfl (by decide +kernel) rfl : e_Sn 11 51 (o_callV (e_s1 0 37 3) 3 54)) t_37_0 t_11_54
noncomputable def n_11_50 : e_Y := u_push (.inl 2147483648) n_11_51
theorem t_11_50 : e_Sn 11 50 (e_un n_11_50) := u_pushT (s_iconst (n := (0)) hq_11 (by decide +kernel) rfl ⟨by decide +kernel, by decide +kernel⟩ : e_Sn 11 50 (o_push (.inl 2147483648) 51)) t_11_51
noncomputable def n_11_48 : e_Y := u_ld f_okI f_l5 n_11_50
theorem t_11_48 : e_Sn 11 48 (e_un n_11_48) := u_ldIT f_l5_eq (s_iload (i := .iload 5) (len := 2) hq_11 (by decide +kernel) rfl (.inl ⟨rfl, rfl⟩) : e_Sn 11 48 (o_load e_okI 5 50)) t_11_50
noncomputable def n_11_47 : e_Y := u_ld f_okA f_l0 n_11_48
theorem t_11_47 : e_Sn 11 47 (e_un n_11_47) := u_ldAT f_l0_eq (s_aload (i := .aload_n 0) (len := 1) hq_11 (by decide +kernel) rfl (.inr ⟨0, rfl, rfl, rfl⟩) : e_Sn 11 47 (o_load e_okR 0 48)) t_11_48
noncomputable def n_11_46 : e_Y := u_old (o_lmul 47) n_11_47
theorem t_11_46 : e_Sn 11 46 (e_un n_11_46) := u_oldT (s_lmul hq_11 (by decide +kernel) rfl : e_Sn 11 46 (o_lmul 47)) t_11_47 e_cg_lmul
noncomputable def n_11_43 : e_Y := u_push (e_L 9223372036854775839) n_11_46
theorem t_11_43 : e_Sn 11 43 (e_un n_11_43) := u_pushT (s_ldc2 (index := 470) (v := (31)) hq_11 ho_11 (List.mem_of_getElem? (i := 1449) (by decide +kernel)) (by decide +kernel) rfl ⟨by decide +kernel, by decide +kernel⟩ : e_Sn 11 43 (o_push (e_L 9223372036854775839) 46)) t_11_46
noncomputable def n_11_42 : e_Y := u_old (o_load e_okL 3 43) n_11_43
theorem t_11_42 : e_Sn 11 42 (e_un n_11_42) := u_oldT (s_lload (i := .lload_n 3) (len := 1) hq_11 (by decide +kernel) rfl (.inr ⟨3, rfl, rfl, rfl⟩) : e_Sn 11 42 (o_load e_okL 3 43)) t_11_43 e_congr_load
noncomputable def n_11_39 : e_Y := u_jmp y_ge (u_old2 (o_clt 42 78) 42 n_11_42 n_11_78) n_11_42 n_11_78
theorem t_11_39 : e_Sn 11 39 (e_un n_11_39) := u_cltT rfl (s_cge (off := (39)) hq_11 (by decide +kernel) rfl rfl : e_Sn 11 39 (o_clt 42 78)) t_11_42 t_11_78
noncomputable def n_11_37 : e_Y := u_push (.inl 2147483654) n_11_39
theorem t_11_37 : e_Sn 11 37 (e_un n_11_37) := u_pushT (s_bipush (n := (6)) hq_11 (by decide +kernel) rfl ⟨by decide +kernel, by decide +kernel⟩ : e_Sn 11 37 (o_push (.inl 2147483654) 39)) t_11_39
noncomputable def n_11_35 : e_Y := u_ld f_okI f_l5 n_11_37
theorem t_11_35 : e_Sn 11 35 (e_un n_11_35) := u_ldIT f_l5_eq (s_iload (i := .iload 5) (len := 2) hq_11 (by decide +kernel) rfl (.inl ⟨rfl, rfl⟩) : e_Sn 11 35 (o_load e_okI 5 37)) t_11_37
noncomputable def n_11_33 : e_Y := u_st f_okI f_s5 n_11_35
theorem t_11_33 : e_Sn 11 33 (e_un n_11_33) := u_stIT (fun _ _ _ => f_s5_eq) (s_istore (i := .istore 5) (len := 2) hq_11 (by decide +kernel) rfl (.inl ⟨rfl, rfl⟩) : e_Sn 11 33 (o_store e_okI 5 35)) t_11_35
noncomputable def n_11_32 : e_Y := u_push (.inl 2147483648) n_11_33
theorem t_11_32 : e_Sn 11 32 (e_un n_11_32) := u_pushT (s_iconst (n := (0)) hq_11 (by decide +kernel) rfl ⟨by decide +kernel, by decide +kernel⟩ : e_Sn 11 32 (o_push (.inl 2147483648) 33)) t_11_33
noncomputable def n_11_29 : e_Y := (u_at 5)
theorem t_11_29 : e_Sn 11 29 (e_un n_11_29) := u_gotoT (s_goto (off := (-24)) hq_11 (by decide +kernel) rfl : e_Sn 11 29 (o_goto 5)) u_atT
noncomputable def n_11_26 : e_Y := u_inc f_l5 f_s5 1 n_11_29
theorem t_11_26 : e_Sn 11 26 (e_un n_11_26) := u_incT f_l5_eq (fun _ _ _ => f_s5_eq) (s_iinc (zz := (1)) hq_11 (by decide +kernel) rfl (by decide +kernel) ⟨by decide, by decide⟩ : e_Sn 11 26 (o_iinc 5 1 29)) t_11_29
noncomputable def n_11_25 : e_Y := u_old (o_storeL 3 26) n_11_26
theorem t_11_25 : e_Sn 11 25 (e_un n_11_25) := u_oldT (s_lstore (i := .lstore_n 3) (len := 1) hq_11 (by decide +kernel) rfl (.inr ⟨3, rfl, rfl, rfl⟩) : e_Sn 11 25 (o_storeL 3 26)) t_11_26 (e_cg_storeL 3)
noncomputable def n_11_24 : e_Y := u_old (o_ladd 25) n_11_25
theorem t_11_24 : e_Sn 11 24 (e_un n_11_24) := u_oldT (s_ladd hq_11 (by decide +kernel) rfl : e_Sn 11 24 (o_ladd 25)) t_11_25 e_cg_ladd
noncomputable def n_11_23 : e_Y := u_old (o_i2l 24) n_11_24
theorem t_11_23 : e_Sn 11 23 (e_un n_11_23) := u_oldT (s_i2l hq_11 (by decide +kernel) rfl : e_Sn 11 23 (o_i2l 24)) t_11_24 e_congr_i2l
noncomputable def n_11_20 : e_Y := u_callV 0 51 3 22 2 n_51_0 n_11_23
theorem t_11_20 : e_Sn 11 20 (e_un n_11_20) := u_callVT rfl (s_callV (ci := 0) (C := er_0) (T := et_0) (N := 17) (index := 522) hq_11 ho_11 hy_51 hp_51 hc_51 hi_51 hd_51 (List.mem_of_getElem? (i := 1495) (by decide +kernel)) hs_51 (List.mem_of_getElem? (i := 1497) (by decide +kernel)) rfl (by decide +kernel) rfl : e_Sn 11 20 (o_callV (e_s1 0 51 3) 2 23)) t_51_0 t_11_23
noncomputable def n_11_18 : e_Y := u_ld f_okI f_l5 n_11_20
theorem t_11_18 : e_Sn 11 18 (e_un n_11_18) := u_ldIT f_l5_eq (s_iload (i := .iload 5) (len := 2) hq_11 (by decide +kernel) rfl (.inl ⟨rfl, rfl⟩) : e_Sn 11 18 (o_load e_okI 5 20)) t_11_20
noncomputable def n_11_17 : e_Y := u_ld f_okA f_l0 n_11_18
theorem t_11_17 : e_Sn 11 17 (e_un n_11_17) := u_ldAT f_l0_eq (s_aload (i := .aload_n 0) (len := 1) hq_11 (by decide +kernel) rfl (.inr ⟨0, rfl, rfl, rfl⟩) : e_Sn 11 17 (o_load e_okR 0 18)) t_11_18
noncomputable def n_11_16 : e_Y := u_old (o_lmul 17) n_11_17
theorem t_11_16 : e_Sn 11 16 (e_un n_11_16) := u_oldT (s_lmul hq_11 (by decide +kernel) rfl : e_Sn 11 16 (o_lmul 17)) t_11_17 e_cg_lmul
noncomputable def n_11_13 : e_Y := u_push (e_L 9223372036854775839) n_11_16
theorem t_11_13 : e_Sn 11 13 (e_un n_11_13) := u_pushT (s_ldc2 (index := 470) (v := (31)) hq_11 ho_11 (List.mem_of_getElem? (i := 1449) (by decide +kernel)) (by decide +kernel) rfl ⟨by decide +kernel, by decide +kernel⟩ : e_Sn 11 13 (o_push (e_L 9223372036854775839) 16)) t_11_16
noncomputable def n_11_12 : e_Y := u_old (o_load e_okL 3 13) n_11_13
theorem t_11_12 : e_Sn 11 12 (e_un n_11_12) := u_oldT (s_lload (i := .lload_n 3) (len := 1) hq_11 (by decide +kernel) rfl (.inr ⟨3, rfl, rfl, rfl⟩) : e_Sn 11 12 (o_load e_okL 3 13)) t_11_13 e_congr_load
noncomputable def n_11_9 : e_Y := u_jmp y_le (u_old2 (o_cgt 32 12) 32 n_11_32 n_11_12) n_11_32 n_11_12
theorem t_11_9 : e_Sn 11 9 (e_un n_11_9) := u_cgtT rfl (s_cgt (off := (23)) hq_11 (by decide +kernel) rfl rfl : e_Sn 11 9 (o_cgt 32 12)) t_11_32 t_11_12
noncomputable def n_11_7 : e_Y := u_push (.inl 2147483662) n_11_9
theorem t_11_7 : e_Sn 11 7 (e_un n_11_7) := u_pushT (s_bipush (n := (14)) hq_11 (by decide +kernel) rfl ⟨by decide +kernel, by decide +kernel⟩ : e_Sn 11 7 (o_push (.inl 2147483662) 9)) t_11_9
noncomputable def n_11_5 : e_Y := u_ld f_okI f_l5 n_11_7
theorem t_11_5 : e_Sn 11 5 (e_un n_11_5) := u_ldIT f_l5_eq (s_iload (i := .iload 5) (len := 2) hq_11 (by decide +kernel) rfl (.inl ⟨rfl, rfl⟩) : e_Sn 11 5 (o_load e_okI 5 7)) t_11_7
noncomputable def n_11_3 : e_Y := u_st f_okI f_s5 n_11_5
theorem t_11_3 : e_Sn 11 3 (e_un n_11_3) := u_stIT (fun _ _ _ => f_s5_eq) (s_istore (i := .istore 5) (len := 2) hq_11 (by decide +kernel) rfl (.inl ⟨rfl, rfl⟩) : e_Sn 11 3 (o_store e_okI 5 5)) t_11_5
noncomputable def n_11_2 : e_Y := u_push (.inl 2147483648) n_11_3
theorem t_11_2 : e_Sn 11 2 (e_un n_11_2) := u_pushT (s_iconst (n := (0)) hq_11 (by decide +kernel) rfl ⟨by decide +kernel, by decide +kernel⟩ : e_Sn 11 2 (o_push (.inl 2147483648) 3)) t_11_3
noncomputable def n_11_1 : e_Y := u_old (o_storeL 3 2) n_11_2
theorem t_11_1 : e_Sn 11 1 (e_un n_11_1) := u_oldT (s_lstore (i := .lstore_n 3) (len := 1) hq_11 (by decide +kernel) rfl (.inr ⟨3, rfl, rfl, rfl⟩) : e_Sn 11 1 (o_storeL 3 2)) t_11_2 (e_cg_storeL 3)
noncomputable def n_11_0 : e_Y := u_old (o_load e_okL 1 1) n_11_1
theorem t_11_0 : e_Sn 11 0 (e_un n_11_0) := u_oldT (s_lload (i := .lload_n 1) (len := 1) hq_11 (by decide +kernel) rfl (.inr ⟨1, rfl, rfl, rfl⟩) : e_Sn 11 0 (o_load e_okL 1 1)) t_11_1 e_congr_load
noncomputable def e_tb_11 : e_X := (e_br 5 (e_lf 0 (e_un n_11_0)) (e_br 35 (e_lf 5 (e_un n_11_5)) (e_lf 35 (e_un n_11_35))))
theorem e_tk_11 : e_Tb 11 e_tb_11 := (e_brT (e_lfT t_11_0) (e_brT (e_lfT t_11_5) (e_lfT t_11_35)))
theorem hq_23 : (e_ml[23]?).map (·.2.1) = some prog_1_method_53_code := rfl
theorem ho_23 : (e_ml[23]?).map (·.1.cls) = some "Plateroomprinter" := rfl
theorem hr_23 : (e_ml[23]?).map (·.2.2.2) = some (some .boolean) := rfl
noncomputable def n_23_91 : e_Y := u_tab (o_ret e_okZ)
theorem t_23_91 : e_Sn 23 91 (e_un n_23_91) := u_tabT (s_zret hq_23 hr_23 (by decide +kernel) : e_Sn 23 91 (o_ret e_okZ))
noncomputable def n_23_90 : e_Y := u_ld f_okI f_l1 n_23_91
theorem t_23_90 : e_Sn 23 90 (e_un n_23_90) := u_ldIT f_l1_eq (s_iload (i := .iload_n 1) (len := 1) hq_23 (by decide +kernel) rfl (.inr ⟨1, rfl, rfl, rfl⟩) : e_Sn 23 90 (o_load e_okI 1 91)) t_23_91
noncomputable def n_23_18 : e_Y := u_jmp y_ge (u_old2 (o_clt 21 90) 21 (u_at 21) n_23_90) (u_at 21) n_23_90
theorem t_23_18 : e_Sn 23 18 (e_un n_23_18) := u_cltT rfl (s_cge (off := (72)) hq_23 (by decide +kernel) rfl rfl : e_Sn 23 18 (o_clt 21 90)) u_atT t_23_90
noncomputable def n_23_15 : e_Y := u_getf 7 4 (u_old (o_getf (e_f1 7 4) 18) n_23_18) n_23_18
theorem t_23_15 : e_Sn 23 15 (e_un n_23_15) := u_getfT (s_getf (C := er_7) (T := et_7) (N := 6) (ref := "Plateroomprinter$Path") (index := 254) (ci := 7) (k := 4) hq_23 ho_23 ⟨rfl, by decide, ei_7, (List.mem_of_getElem? (i := 298) (by decide +kernel)), .inl rfl⟩ (by decide +kernel) rfl : e_Sn 23 15 (o_getf (e_f1 7 4) 18)) t_23_18
noncomputable def n_23_12 : e_Y := u_getf 10 1 (u_old (o_getf (e_f1 10 1) 15) n_23_15) n_23_15
theorem t_23_12 : e_Sn 23 12 (e_un n_23_12) := u_getfT (s_getf (C := er_10) (T := et_10) (N := 11) (ref := "Plateroomprinter$State") (index := 250) (ci := 10) (k := 1) hq_23 ho_23 ⟨rfl, by decide, ei_10, (List.mem_of_getElem? (i := 321) (by decide +kernel)), .inl rfl⟩ (by decide +kernel) rfl : e_Sn 23 12 (o_getf (e_f1 10 1) 15)) t_23_15
noncomputable def n_23_9 : e_Y := u_getf 11 2 (u_old (o_getf (e_f1 11 2) 12) n_23_12) n_23_12
theorem t_23_9 : e_Sn 23 9 (e_un n_23_9) := u_getfT (s_getf (C := er_11) (T := et_11) (N := 15) (ref := "Plateroomprinter$World") (index := 221) (ci := 11) (k := 2) hq_23 ho_23 ⟨rfl, by decide, ei_11, (List.mem_of_getElem? (i := 467) (by decide +kernel)), .inl rfl⟩ (by decide +kernel) rfl : e_Sn 23 9 (o_getf (e_f1 11 2) 12)) t_23_12
noncomputable def n_23_6 : e_Y := u_getf 0 1 (u_old (o_getf (e_f1 0 1) 9) n_23_9) n_23_9
theorem t_23_6 : e_Sn 23 6 (e_un n_23_6) := u_getfT (s_getf (C := er_0) (T := et_0) (N := 17) (ref := "Plateroomprinter") (index := 19) (ci := 0) (k := 1) hq_23 ho_23 ⟨rfl, by decide, ei_0, (List.mem_of_getElem? (i := 681) (by decide +kernel)), .inl rfl⟩ (by decide +kernel) rfl : e_Sn 23 6 (o_getf (e_f1 0 1) 9)) t_23_9
noncomputable def n_23_5 : e_Y := u_ld f_okA f_l0 n_23_6
theorem t_23_5 : e_Sn 23 5 (e_un n_23_5) := u_ldAT f_l0_eq (s_aload (i := .aload_n 0) (len := 1) hq_23 (by decide +kernel) rfl (.inr ⟨0, rfl, rfl, rfl⟩) : e_Sn 23 5 (o_load e_okR 0 6)) t_23_6
noncomputable def n_23_4 : e_Y := u_ld f_okI f_l2 n_23_5
theorem t_23_4 : e_Sn 23 4 (e_un n_23_4) := u_ldIT f_l2_eq (s_iload (i := .iload_n 2) (len := 1) hq_23 (by decide +kernel) rfl (.inr ⟨2, rfl, rfl, rfl⟩) : e_Sn 23 4 (o_load e_okI 2 5)) t_23_5
noncomputable def n_23_3 : e_Y := u_st f_okI f_s2 n_23_4
theorem t_23_3 : e_Sn 23 3 (e_un n_23_3) := u_stIT (fun _ _ _ => f_s2_eq) (s_istore (i := .istore_n 2) (len := 1) hq_23 (by decide +kernel) rfl (.inr ⟨2, rfl, rfl, rfl⟩) : e_Sn 23 3 (o_store e_okI 2 4)) t_23_4
noncomputable def n_23_2 : e_Y := u_push (.inl 2147483648) n_23_3
theorem t_23_2 : e_Sn 23 2 (e_un n_23_2) := u_pushT (s_iconst (n := (0)) hq_23 (by decide +kernel) rfl ⟨by decide +kernel, by decide +kernel⟩ : e_Sn 23 2 (o_push (.inl 2147483648) 3)) t_23_3
noncomputable def n_23_1 : e_Y := u_st f_okI f_s1 n_23_2
theorem t_23_1 : e_Sn 23 1 (e_un n_23_1) := u_stIT (fun _ _ _ => f_s1_eq) (s_istore (i := .istore_n 1) (len := 1) hq_23 (by decide +kernel) rfl (.inr ⟨1, rfl, rfl, rfl⟩) : e_Sn 23 1 (o_store e_okI 1 2)) t_23_2
noncomputable def n_23_0 : e_Y := u_push (.inl 2147483649) n_23_1
theorem t_23_0 : e_Sn 23 0 (e_un n_23_0) := u_pushT (s_iconst (n := (1)) hq_23 (by decide +kernel) rfl ⟨by decide +kernel, by decide +kernel⟩ : e_Sn 23 0 (o_push (.inl 2147483649) 1)) t_23_1
noncomputable def e_tb_23 : e_X := (e_lf 0 (e_un n_23_0))
theorem e_tk_23 : e_Tb 23 e_tb_23 := (e_lfT t_23_0)
theorem hq_26 : (e_ml[26]?).map (·.2.1) = some prog_1_method_33_code := rfl
theorem ho_26 : (e_ml[26]?).map (·.1.cls) = some "Plateroomprinter" := rfl
theorem hr_26 : (e_ml[26]?).map (·.2.2.2) = some (some .boolean) := rfl
noncomputable def n_26_25 : e_Y := u_tab (o_ret e_okZ)
theorem t_26_25 : e_Sn 26 25 (e_un n_26_25) := u_tabT (s_zret hq_26 hr_26 (by decide +kernel) : e_Sn 26 25 (o_ret e_okZ))
noncomputable def n_26_24 : e_Y := u_push (.inl 2147483648) n_26_25
theorem t_26_24 : e_Sn 26 24 (e_un n_26_24) := u_pushT (s_iconst (n := (0)) hq_26 (by decide +kernel) rfl ⟨by decide +kernel, by decide +kernel⟩ : e_Sn 26 24 (o_push (.inl 2147483648) 25)) t_26_25
noncomputable def n_26_21 : e_Y := n_26_25
theorem t_26_21 : e_Sn 26 21 (e_un n_26_21) := u_gotoT (s_goto (off := (4)) hq_26 (by decide +kernel) rfl : e_Sn 26 21 (o_goto 25)) t_26_25
noncomputable def n_26_20 : e_Y := u_push (.inl 2147483649) n_26_21
theorem t_26_20 : e_Sn 26 20 (e_un n_26_20) := u_pushT (s_iconst (n := (1)) hq_26 (by decide +kernel) rfl ⟨by decide +kernel, by decide +kernel⟩ : e_Sn 26 20 (o_push (.inl 2147483649) 21)) t_26_21
noncomputable def n_26_17 : e_Y := u_jmp y_ge (u_old2 (o_clt 20 24) 20 n_26_20 n_26_24) n_26_20 n_26_24
theorem t_26_17 : e_Sn 26 17 (e_un n_26_17) := u_cltT rfl (s_cge (off := (7)) hq_26 (by decide +kernel) rfl rfl : e_Sn 26 17 (o_clt 20 24)) t_26_20 t_26_24
noncomputable def n_26_15 : e_Y := u_push (.inl 2147483680) n_26_17
theorem t_26_15 : e_Sn 26 15 (e_un n_26_15) := u_pushT (s_bipush (n := (32)) hq_26 (by decide +kernel) rfl ⟨by decide +kernel, by decide +kernel⟩ : e_Sn 26 15 (o_push (.inl 2147483680) 17)) t_26_17
noncomputable def n_26_14 : e_Y := u_ld f_okI f_l1 n_26_15
theorem t_26_14 : e_Sn 26 14 (e_un n_26_14) := u_ldIT f_l1_eq (s_iload (i := .iload_n 1) (len := 1) hq_26 (by decide +kernel) rfl (.inr ⟨1, rfl, rfl, rfl⟩) : e_Sn 26 14 (o_load e_okI 1 15)) t_26_15
noncomputable def n_26_11 : e_Y := u_if y_ge0 (u_old2 (o_iflt 24 14) 24 n_26_24 n_26_14) n_26_24 n_26_14
theorem t_26_11 : e_Sn 26 11 (e_un n_26_11) := u_ifltT rfl (s_iflt (off := (13)) hq_26 (by decide +kernel) rfl rfl : e_Sn 26 11 (o_iflt 24 14)) t_26_24 t_26_14
noncomputable def n_26_10 : e_Y := u_ld f_okI f_l1 n_26_11
theorem t_26_10 : e_Sn 26 10 (e_un n_26_10) := u_ldIT f_l1_eq (s_iload (i := .iload_n 1) (len := 1) hq_26 (by decide +kernel) rfl (.inr ⟨1, rfl, rfl, rfl⟩) : e_Sn 26 10 (o_load e_okI 1 11)) t_26_11
noncomputable def n_26_7 : e_Y := u_jmp y_ge (u_old2 (o_clt 10 24) 10 n_26_10 n_26_24) n_26_10 n_26_24
theorem t_26_7 : e_Sn 26 7 (e_un n_26_7) := u_cltT rfl (s_cge (off := (17)) hq_26 (by decide +kernel) rfl rfl : e_Sn 26 7 (o_clt 10 24)) t_26_10 t_26_24
noncomputable def n_26_5 : e_Y := u_push (.inl 2147483680) n_26_7
theorem t_26_5 : e_Sn 26 5 (e_un n_26_5) := u_pushT (s_bipush (n := (32)) hq_26 (by decide +kernel) rfl ⟨by decide +kernel, by decide +kernel⟩ : e_Sn 26 5 (o_push (.inl 2147483680) 7)) t_26_7
noncomputable def n_26_4 : e_Y := u_ld f_okI f_l0 n_26_5
theorem t_26_4 : e_Sn 26 4 (e_un n_26_4) := u_ldIT f_l0_eq (s_iload (i := .iload_n 0) (len := 1) hq_26 (by decide +kernel) rfl (.inr ⟨0, rfl, rfl, rfl⟩) : e_Sn 26 4 (o_load e_okI 0 5)) t_26_5
noncomputable def n_26_1 : e_Y := u_if y_ge0 (u_old2 (o_iflt 24 4) 24 n_26_24 n_26_4) n_26_24 n_26_4
theorem t_26_1 : e_Sn 26 1 (e_un n_26_1) := u_ifltT rfl (s_iflt (off := (23)) hq_26 (by decide +kernel) rfl rfl : e_Sn 26 1 (o_iflt 24 4)) t_26_24 t_26_4
noncomputable def n_26_0 : e_Y := u_ld f_okI f_l0 n_26_1
theorem t_26_0 : e_Sn 26 0 (e_un n_26_0) := u_ldIT f_l0_eq (s_iload (i := .iload_n 0) (len := 1) hq_26 (by decide +kernel) rfl (.inr ⟨0, rfl, rfl, rfl⟩) : e_Sn 26 0 (o_load e_okI 0 1)) t_26_1
noncomputable def e_tb_26 : e_X := (e_lf 0 (e_un n_26_0))
theorem e_tk_26 : e_Tb 26 e_tb_26 := (e_lfT t_26_0)
theorem hq_34 : (e_ml[34]?).map (·.2.1) = some prog_1_method_40_code := rfl
theorem ho_34 : (e_ml[34]?).map (·.1.cls) = some "Plateroomprinter" := rfl
theorem hr_34 : (e_ml[34]?).map (·.2.2.2) = some (some .int) := rfl
noncomputable def n_34_68 : e_Y := u_retI
theorem t_34_68 : e_Sn 34 68 (e_un n_34_68) := u_retIT (s_iret hq_34 hr_34 (by decide +kernel) : e_Sn 34 68 (o_ret e_okI))
noncomputable def n_34_67 : e_Y := u_push (.inl 2147483647) n_34_68
theorem t_34_67 : e_Sn 34 67 (e_un n_34_67) := u_pushT (s_iconst (n := (-1)) hq_34 (by decide +kernel) rfl ⟨by decide +kernel, by decide +kernel⟩ : e_Sn 34 67 (o_push (.inl 2147483647) 68)) t_34_68
noncomputable def n_34_33 : e_Y := u_if y_ge0 (u_old2 (o_iflt 67 36) 67 n_34_67 (u_at 36)) n_34_67 (u_at 36)
theorem t_34_33 : e_Sn 34 33 (e_un n_34_33) := u_ifltT rfl (s_iflt (off := (34)) hq_34 (by decide +kernel) rfl rfl : e_Sn 34 33 (o_iflt 67 36)) t_34_67 u_atT
noncomputable def n_34_32 : e_Y := u_ld f_okI f_l3 n_34_33
theorem t_34_32 : e_Sn 34 32 (e_un n_34_32) := u_ldIT f_l3_eq (s_iload (i := .iload_n 3) (len := 1) hq_34 (by decide +kernel) rfl (.inr ⟨3, rfl, rfl, rfl⟩) : e_Sn 34 32 (o_load e_okI 3 33)) t_34_33
noncomputable def n_34_31 : e_Y := u_st f_okI f_s3 n_34_32
theorem t_34_31 : e_Sn 34 31 (e_un n_34_31) := u_stIT (fun _ _ _ => f_s3_eq) (s_istore (i := .istore_n 3) (len := 1) hq_34 (by decide +kernel) rfl (.inr ⟨3, rfl, rfl, rfl⟩) : e_Sn 34 31 (o_store e_okI 3 32)) t_34_32
noncomputable def n_34_30 : e_Y := u_bin a_isub (u_old (o_isub 31) n_34_31) n_34_31
theorem t_34_30 : e_Sn 34 30 (e_un n_34_30) := u_isubT (s_isub hq_34 (by decide +kernel) rfl : e_Sn 34 30 (o_isub 31)) t_34_31
noncomputable def n_34_29 : e_Y := u_push (.inl 2147483649) n_34_30
theorem t_34_29 : e_Sn 34 29 (e_un n_34_29) := u_pushT (s_iconst (n := (1)) hq_34 (by decide +kernel) rfl ⟨by decide +kernel, by decide +kernel⟩ : e_Sn 34 29 (o_push (.inl 2147483649) 30)) t_34_30
noncomputable def n_34_26 : e_Y := u_getf 3 4 (u_old (o_getf (e_f1 3 4) 29) n_34_29) n_34_29
theorem t_34_26 : e_Sn 34 26 (e_un n_34_26) := u_getfT (s_getf (C := er_3) (T := et_3) (N := 5) (ref := "Plateroomprinter$Figures") (index := 390) (ci := 3) (k := 4) hq_34 ho_34 ⟨rfl, by decide, ei_3, (List.mem_of_getElem? (i := 403) (by decide +kernel)), .inl rfl⟩ (by decide +kernel) rfl : e_Sn 34 26 (o_getf (e_f1 3 4) 29)) t_34_29
noncomputable def n_34_23 : e_Y := u_getf 11 9 (u_old (o_getf (e_f1 11 9) 26) n_34_26) n_34_26
theorem t_34_23 : e_Sn 34 23 (e_un n_34_23) := u_getfT (s_getf (C := er_11) (T := et_11) (N := 15) (ref := "Plateroomprinter$World") (index := 386) (ci := 11) (k := 9) hq_34 ho_34 ⟨rfl, by decide, ei_11, (List.mem_of_getElem? (i := 487) (by decide +kernel)), .inl rfl⟩ (by decide +kernel) rfl : e_Sn 34 23 (o_getf (e_f1 11 9) 26)) t_34_26
noncomputable def n_34_20 : e_Y := u_getf 0 1 (u_old (o_getf (e_f1 0 1) 23) n_34_23) n_34_23
theorem t_34_20 : e_Sn 34 20 (e_un n_34_20) := u_getfT (s_getf (C := er_0) (T := et_0) (N := 17) (ref := "Plateroomprinter") (index := 19) (ci := 0) (k := 1) hq_34 ho_34 ⟨rfl, by decide, ei_0, (List.mem_of_getElem? (i := 681) (by decide +kernel)), .inl rfl⟩ (by decide +kernel) rfl : e_Sn 34 20 (o_getf (e_f1 0 1) 23)) t_34_23
noncomputable def n_34_19 : e_Y := u_ld f_okA f_l0 n_34_20
theorem t_34_19 : e_Sn 34 19 (e_un n_34_19) := u_ldAT f_l0_eq (s_aload (i := .aload_n 0) (len := 1) hq_34 (by decide +kernel) rfl (.inr ⟨0, rfl, rfl, rfl⟩) : e_Sn 34 19 (o_load e_okR 0 20)) t_34_20
noncomputable def n_34_8 : e_Y := u_tab (o_throw 2)
theorem t_34_8 : e_Sn 34 8 (e_un n_34_8) := u_tabT (s_throw (ik := 175) (is := 322) (ic := 179) (X := "java/lang/IndexOutOfBoundsException") (text := "no such dot") hq_34 ho_34 hy_34 hc_34 rfl (by decide +kernel) e_wok2 (by simp [e_sr]) (by decide +kernel) (by decide +kernel) (.inr ⟨(by decide +kernel), (by decide +kernel), (by decide +kernel)⟩) : e_Sn 34 8 (o_throw 2))
noncomputable def n_34_5 : e_Y := u_if y_ne0 (u_old2 (o_ifeq 8 19) 8 n_34_8 n_34_19) n_34_8 n_34_19
theorem t_34_5 : e_Sn 34 5 (e_un n_34_5) := u_ifeqT rfl (s_ifne (off := (14)) hq_34 (by decide +kernel) rfl rfl : e_Sn 34 5 (o_ifeq 8 19)) t_34_8 t_34_19
noncomputable def n_34_2 : e_Y := u_callS 26 2 21 2 n_26_0 n_34_5
theorem t_34_2 : e_Sn 34 2 (e_un n_34_2) := u_callST rfl (s_callS (index := 319) hq_34 ho_34 hy_26 hp_26 hc_26 hi_26 hd_26 (List.mem_of_getElem? (i := 1371) (by decide +kernel)) hs_26 (by decide +kernel) rfl : e_Sn 34 2 (o_callS 26 2 2 5)) t_26_0 t_34_5
noncomputable def n_34_1 : e_Y := u_ld f_okI f_l2 n_34_2
theorem t_34_1 : e_Sn 34 1 (e_un n_34_1) := u_ldIT f_l2_eq (s_iload (i := .iload_n 2) (len := 1) hq_34 (by decide +kernel) rfl (.inr ⟨2, rfl, rfl, rfl⟩) : e_Sn 34 1 (o_load e_okI 2 2)) t_34_2
noncomputable def n_34_0 : e_Y := u_ld f_okI f_l1 n_34_1
theorem t_34_0 : e_Sn 34 0 (e_un n_34_0) := u_ldIT f_l1_eq (s_iload (i := .iload_n 1) (len := 1) hq_34 (by decide +kernel) rfl (.inr ⟨1, rfl, rfl, rfl⟩) : e_Sn 34 0 (o_load e_okI 1 1)) t_34_1
noncomputable def e_tb_34 : e_X := (e_lf 0 (e_un n_34_0))
theorem e_tk_34 : e_Tb 34 e_tb_34 := (e_lfT t_34_0)
theorem hq_28 : (e_ml[28]?).map (·.2.1) = some prog_1_method_36_code := rfl
theorem ho_28 : (e_ml[28]?).map (·.1.cls) = some "Plateroomprinter" := rfl
theorem hr_28 : (e_ml[28]?).map (·.2.2.2) = some (some .boolean) := rfl
noncomputable def n_28_25 : e_Y := u_tab (o_ret e_okZ)
theorem t_28_25 : e_Sn 28 25 (e_un n_28_25) := u_tabT (s_zret hq_28 hr_28 (by decide +kernel) : e_Sn 28 25 (o_ret e_okZ))
noncomputable def n_28_24 : e_Y := u_push (.inl 2147483648) n_28_25
theorem t_28_24 : e_Sn 28 24 (e_un n_28_24) := u_pushT (s_iconst (n := (0)) hq_28 (by decide +kernel) rfl ⟨by decide +kernel, by decide +kernel⟩ : e_Sn 28 24 (o_push (.inl 2147483648) 25)) t_28_25
noncomputable def n_28_17 : e_Y := u_if y_ne0 (u_old2 (o_ifeq 24 20) 24 n_28_24 (u_at 20)) n_28_24 (u_at 20)
theorem t_28_17 : e_Sn 28 17 (e_un n_28_17) := u_ifeqT rfl (s_ifeq (off := (7)) hq_28 (by decide +kernel) rfl rfl : e_Sn 28 17 (o_ifeq 24 20)) t_28_24 u_atT
noncomputable def n_28_16 : e_Y := u_bin a_iand (u_old (o_bin Nat.land 17) n_28_17) n_28_17
theorem t_28_16 : e_Sn 28 16 (e_un n_28_16) := u_iandT (s_iand hq_28 (by decide +kernel) rfl : e_Sn 28 16 (o_bin Nat.land 17)) t_28_17
noncomputable def n_28_15 : e_Y := u_push (.inl 2147483649) n_28_16
theorem t_28_15 : e_Sn 28 15 (e_un n_28_15) := u_pushT (s_iconst (n := (1)) hq_28 (by decide +kernel) rfl ⟨by decide +kernel, by decide +kernel⟩ : e_Sn 28 15 (o_push (.inl 2147483649) 16)) t_28_16
noncomputable def n_28_14 : e_Y := u_bin a_iushr (u_old (o_iushr 15) n_28_15) n_28_15
theorem t_28_14 : e_Sn 28 14 (e_un n_28_14) := u_iushrT (s_iushr hq_28 (by decide +kernel) rfl : e_Sn 28 14 (o_iushr 15)) t_28_15
noncomputable def n_28_13 : e_Y := u_ld f_okI f_l1 n_28_14
theorem t_28_13 : e_Sn 28 13 (e_un n_28_13) := u_ldIT f_l1_eq (s_iload (i := .iload_n 1) (len := 1) hq_28 (by decide +kernel) rfl (.inr ⟨1, rfl, rfl, rfl⟩) : e_Sn 28 13 (o_load e_okI 1 14)) t_28_14
noncomputable def n_28_12 : e_Y := u_ald 0 (u_old (o_ald e_fcs 13) n_28_13) n_28_13
theorem t_28_12 : e_Sn 28 12 (e_un n_28_12) := u_aldT (s_iald hq_28 (by decide +kernel) rfl : e_Sn 28 12 (o_ald e_fcs 13)) t_28_13
noncomputable def n_28_11 : e_Y := u_ld f_okI f_l2 n_28_12
theorem t_28_11 : e_Sn 28 11 (e_un n_28_11) := u_ldIT f_l2_eq (s_iload (i := .iload_n 2) (len := 1) hq_28 (by decide +kernel) rfl (.inr ⟨2, rfl, rfl, rfl⟩) : e_Sn 28 11 (o_load e_okI 2 12)) t_28_12
noncomputable def n_28_10 : e_Y := u_ld f_okA f_l0 n_28_11
theorem t_28_10 : e_Sn 28 10 (e_un n_28_10) := u_ldAT f_l0_eq (s_aload (i := .aload_n 0) (len := 1) hq_28 (by decide +kernel) rfl (.inr ⟨0, rfl, rfl, rfl⟩) : e_Sn 28 10 (o_load e_okR 0 11)) t_28_11
noncomputable def n_28_7 : e_Y := u_jmp y_ge (u_old2 (o_clt 10 24) 10 n_28_10 n_28_24) n_28_10 n_28_24
theorem t_28_7 : e_Sn 28 7 (e_un n_28_7) := u_cltT rfl (s_cge (off := (17)) hq_28 (by decide +kernel) rfl rfl : e_Sn 28 7 (o_clt 10 24)) t_28_10 t_28_24
noncomputable def n_28_6 : e_Y := u_old (o_alen e_fcs 7) n_28_7
theorem t_28_6 : e_Sn 28 6 (e_un n_28_6) := u_oldT (s_alen hq_28 (by decide +kernel) rfl : e_Sn 28 6 (o_alen e_fcs 7)) t_28_7 (e_cg_alen e_fcs)
noncomputable def n_28_5 : e_Y := u_ld f_okA f_l0 n_28_6
theorem t_28_5 : e_Sn 28 5 (e_un n_28_5) := u_ldAT f_l0_eq (s_aload (i := .aload_n 0) (len := 1) hq_28 (by decide +kernel) rfl (.inr ⟨0, rfl, rfl, rfl⟩) : e_Sn 28 5 (o_load e_okR 0 6)) t_28_6
noncomputable def n_28_4 : e_Y := u_ld f_okI f_l2 n_28_5
theorem t_28_4 : e_Sn 28 4 (e_un n_28_4) := u_ldIT f_l2_eq (s_iload (i := .iload_n 2) (len := 1) hq_28 (by decide +kernel) rfl (.inr ⟨2, rfl, rfl, rfl⟩) : e_Sn 28 4 (o_load e_okI 2 5)) t_28_5
noncomputable def n_28_1 : e_Y := u_if y_ge0 (u_old2 (o_iflt 24 4) 24 n_28_24 n_28_4) n_28_24 n_28_4
theorem t_28_1 : e_Sn 28 1 (e_un n_28_1) := u_ifltT rfl (s_iflt (off := (23)) hq_28 (by decide +kernel) rfl rfl : e_Sn 28 1 (o_iflt 24 4)) t_28_24 t_28_4
noncomputable def n_28_0 : e_Y := u_ld f_okI f_l2 n_28_1
theorem t_28_0 : e_Sn 28 0 (e_un n_28_0) := u_ldIT f_l2_eq (s_iload (i := .iload_n 2) (len := 1) hq_28 (by decide +kernel) rfl (.inr ⟨2, rfl, rfl, rfl⟩) : e_Sn 28 0 (o_load e_okI 2 1)) t_28_1
noncomputable def e_tb_28 : e_X := (e_lf 0 (e_un n_28_0))
theorem e_tk_28 : e_Tb 28 e_tb_28 := (e_lfT t_28_0)
theorem hq_93 : (e_ml[93]?).map (·.2.1) = some prog_10_method_7_code := rfl
theorem ho_93 : (e_ml[93]?).map (·.1.cls) = some "Plateroomprinter$Sheet" := rfl
theorem hr_93 : (e_ml[93]?).map (·.2.2.2) = some (some .int) := rfl
noncomputable def n_93_43 : e_Y := u_retI
theorem t_93_43 : e_Sn 93 43 (e_un n_93_43) := u_retIT (s_iret hq_93 hr_93 (by decide +kernel) : e_Sn 93 43 (o_ret e_okI))
noncomputable def n_93_42 : e_Y := u_ld f_okI f_l3 n_93_43
theorem t_93_42 : e_Sn 93 42 (e_un n_93_42) := u_ldIT f_l3_eq (s_iload (i := .iload_n 3) (len := 1) hq_93 (by decide +kernel) rfl (.inr ⟨3, rfl, rfl, rfl⟩) : e_Sn 93 42 (o_load e_okI 3 43)) t_93_43
noncomputable def n_93_39 : e_Y := (u_at 5)
theorem t_93_39 : e_Sn 93 39 (e_un n_93_39) := u_gotoT (s_goto (off := (-34)) hq_93 (by decide +kernel) rfl : e_Sn 93 39 (o_goto 5)) u_atT
noncomputable def n_93_36 : e_Y := u_inc f_l4 f_s4 1 n_93_39
theorem t_93_36 : e_Sn 93 36 (e_un n_93_36) := u_incT f_l4_eq (fun _ _ _ => f_s4_eq) (s_iinc (zz := (1)) hq_93 (by decide +kernel) rfl (by decide +kernel) ⟨by decide, by decide⟩ : e_Sn 93 36 (o_iinc 4 1 39)) t_93_39
noncomputable def n_93_26 : e_Y := u_if y_ne0 (u_old2 (o_ifeq 36 29) 36 n_93_36 (u_at 29)) n_93_36 (u_at 29)
theorem t_93_26 : e_Sn 93 26 (e_un n_93_26) := u_ifeqT rfl (s_ifeq (off := (10)) hq_93 (by decide +kernel) rfl rfl : e_Sn 93 26 (o_ifeq 36 29)) t_93_36 u_atT
noncomputable def n_93_23 : e_Y := u_callS 28 3 22 3 n_28_0 n_93_26
theorem t_93_23 : e_Sn 93 23 (e_un n_93_23) := u_callST rfl (s_callSN (host := "Plateroomprinter") (index := 36) hq_93 ho_93 hy_28 hp_28 hc_28 hi_28 hd_28 (List.mem_of_getElem? (i := 1423) (by decide +kernel)) hs_28 (by decide +kernel) rfl : e_Sn 93 23 (o_callS 28 3 3 26)) t_28_0 t_93_26
noncomputable def n_93_22 : e_Y := u_bin a_iadd (u_old (o_iadd 23) n_93_23) n_93_23
theorem t_93_22 : e_Sn 93 22 (e_un n_93_22) := u_iaddT (s_iadd hq_93 (by decide +kernel) rfl : e_Sn 93 22 (o_iadd 23)) t_93_23
noncomputable def n_93_21 : e_Y := u_ld f_okI f_l2 n_93_22
theorem t_93_21 : e_Sn 93 21 (e_un n_93_21) := u_ldIT f_l2_eq (s_iload (i := .iload_n 2) (len := 1) hq_93 (by decide +kernel) rfl (.inr ⟨2, rfl, rfl, rfl⟩) : e_Sn 93 21 (o_load e_okI 2 22)) t_93_22
noncomputable def n_93_20 : e_Y := u_bin a_imul (u_old (o_imul 21) n_93_21) n_93_21
theorem t_93_20 : e_Sn 93 20 (e_un n_93_20) := u_imulT (s_imul hq_93 (by decide +kernel) rfl : e_Sn 93 20 (o_imul 21)) t_93_21
noncomputable def n_93_18 : e_Y := u_push (.inl 2147483680) n_93_20
theorem t_93_18 : e_Sn 93 18 (e_un n_93_18) := u_pushT (s_bipush (n := (32)) hq_93 (by decide +kernel) rfl ⟨by decide +kernel, by decide +kernel⟩ : e_Sn 93 18 (o_push (.inl 2147483680) 20)) t_93_20
noncomputable def n_93_16 : e_Y := u_ld f_okI f_l4 n_93_18
theorem t_93_16 : e_Sn 93 16 (e_un n_93_16) := u_ldIT f_l4_eq (s_iload (i := .iload 4) (len := 2) hq_93 (by decide +kernel) rfl (.inl ⟨rfl, rfl⟩) : e_Sn 93 16 (o_load e_okI 4 18)) t_93_18
noncomputable def n_93_15 : e_Y := u_ld f_okI f_l1 n_93_16
theorem t_93_15 : e_Sn 93 15 (e_un n_93_15) := u_ldIT f_l1_eq (s_iload (i := .iload_n 1) (len := 1) hq_93 (by decide +kernel) rfl (.inr ⟨1, rfl, rfl, rfl⟩) : e_Sn 93 15 (o_load e_okI 1 16)) t_93_16
noncomputable def n_93_12 : e_Y := u_getf 9 0 (u_old (o_getf (e_f1 9 0) 15) n_93_15) n_93_15
theorem t_93_12 : e_Sn 93 12 (e_un n_93_12) := u_getfT (s_getf (C := er_9) (T := et_9) (N := 1) (ref := "Plateroomprinter$Sheet") (index := 9) (ci := 9) (k := 0) hq_93 ho_93 ⟨rfl, by decide, ei_9, (List.mem_of_getElem? (i := 381) (by decide +kernel)), .inl rfl⟩ (by decide +kernel) rfl : e_Sn 93 12 (o_getf (e_f1 9 0) 15)) t_93_15
noncomputable def n_93_11 : e_Y := u_ld f_okA f_l0 n_93_12
theorem t_93_11 : e_Sn 93 11 (e_un n_93_11) := u_ldAT f_l0_eq (s_aload (i := .aload_n 0) (len := 1) hq_93 (by decide +kernel) rfl (.inr ⟨0, rfl, rfl, rfl⟩) : e_Sn 93 11 (o_load e_okR 0 12)) t_93_12
noncomputable def n_93_8 : e_Y := u_jmp y_ge (u_old2 (o_clt 11 42) 11 n_93_11 n_93_42) n_93_11 n_93_42
theorem t_93_8 : e_Sn 93 8 (e_un n_93_8) := u_cltT rfl (s_cge (off := (34)) hq_93 (by decide +kernel) rfl rfl : e_Sn 93 8 (o_clt 11 42)) t_93_11 t_93_42
noncomputable def n_93_7 : e_Y := u_push (.inl 2147483652) n_93_8
theorem t_93_7 : e_Sn 93 7 (e_un n_93_7) := u_pushT (s_iconst (n := (4)) hq_93 (by decide +kernel) rfl ⟨by decide +kernel, by decide +kernel⟩ : e_Sn 93 7 (o_push (.inl 2147483652) 8)) t_93_8
noncomputable def n_93_5 : e_Y := u_ld f_okI f_l4 n_93_7
theorem t_93_5 : e_Sn 93 5 (e_un n_93_5) := u_ldIT f_l4_eq (s_iload (i := .iload 4) (len := 2) hq_93 (by decide +kernel) rfl (.inl ⟨rfl, rfl⟩) : e_Sn 93 5 (o_load e_okI 4 7)) t_93_7
noncomputable def n_93_3 : e_Y := u_st f_okI f_s4 n_93_5
theorem t_93_3 : e_Sn 93 3 (e_un n_93_3) := u_stIT (fun _ _ _ => f_s4_eq) (s_istore (i := .istore 4) (len := 2) hq_93 (by decide +kernel) rfl (.inl ⟨rfl, rfl⟩) : e_Sn 93 3 (o_store e_okI 4 5)) t_93_5
noncomputable def n_93_2 : e_Y := u_push (.inl 2147483648) n_93_3
theorem t_93_2 : e_Sn 93 2 (e_un n_93_2) := u_pushT (s_iconst (n := (0)) hq_93 (by decide +kernel) rfl ⟨by decide +kernel, by decide +kernel⟩ : e_Sn 93 2 (o_push (.inl 2147483648) 3)) t_93_3
noncomputable def n_93_1 : e_Y := u_st f_okI f_s3 n_93_2
theorem t_93_1 : e_Sn 93 1 (e_un n_93_1) := u_stIT (fun _ _ _ => f_s3_eq) (s_istore (i := .istore_n 3) (len := 1) hq_93 (by decide +kernel) rfl (.inr ⟨3, rfl, rfl, rfl⟩) : e_Sn 93 1 (o_store e_okI 3 2)) t_93_2
noncomputable def n_93_0 : e_Y := u_push (.inl 2147483648) n_93_1
theorem t_93_0 : e_Sn 93 0 (e_un n_93_0) := u_pushT (s_iconst (n := (0)) hq_93 (by decide +kernel) rfl ⟨by decide +kernel, by decide +kernel⟩ : e_Sn 93 0 (o_push (.inl 2147483648) 1)) t_93_1
noncomputable def e_tb_93 : e_X := (e_br 5 (e_lf 0 (e_un n_93_0)) (e_lf 5 (e_un n_93_5)))
theorem e_tk_93 : e_Tb 93 e_tb_93 := (e_brT (e_lfT t_93_0) (e_lfT t_93_5))
theorem hq_36 : (e_ml[36]?).map (·.2.1) = some prog_1_method_54_code := rfl
theorem ho_36 : (e_ml[36]?).map (·.1.cls) = some "Plateroomprinter" := rfl
theorem hr_36 : (e_ml[36]?).map (·.2.2.2) = some (some .boolean) := rfl
noncomputable def n_36_114 : e_Y := u_tab (o_ret e_okZ)
theorem t_36_114 : e_Sn 36 114 (e_un n_36_114) := u_tabT (s_zret hq_36 hr_36 (by decide +kernel) : e_Sn 36 114 (o_ret e_okZ))
noncomputable def n_36_113 : e_Y := u_ld f_okI f_l2 n_36_114
theorem t_36_113 : e_Sn 36 113 (e_un n_36_113) := u_ldIT f_l2_eq (s_iload (i := .iload_n 2) (len := 1) hq_36 (by decide +kernel) rfl (.inr ⟨2, rfl, rfl, rfl⟩) : e_Sn 36 113 (o_load e_okI 2 114)) t_36_114
noncomputable def n_36_110 : e_Y := (u_at 4)
theorem t_36_110 : e_Sn 36 110 (e_un n_36_110) := u_gotoT (s_goto (off := (-106)) hq_36 (by decide +kernel) rfl : e_Sn 36 110 (o_goto 4)) u_atT
noncomputable def n_36_107 : e_Y := u_inc f_l3 f_s3 1 n_36_110
theorem t_36_107 : e_Sn 36 107 (e_un n_36_107) := u_incT f_l3_eq (fun _ _ _ => f_s3_eq) (s_iinc (zz := (1)) hq_36 (by decide +kernel) rfl (by decide +kernel) ⟨by decide, by decide⟩ : e_Sn 36 107 (o_iinc 3 1 110)) t_36_110
noncomputable def n_36_102 : e_Y := u_jmp y_ne (u_old2 (o_ceq 107 105) 107 n_36_107 (u_at 105)) n_36_107 (u_at 105)
theorem t_36_102 : e_Sn 36 102 (e_un n_36_102) := u_ceqT rfl (s_ceq (off := (5)) hq_36 (by decide +kernel) rfl rfl : e_Sn 36 102 (o_ceq 107 105)) t_36_107 u_atT
noncomputable def n_36_99 : e_Y := u_callV 9 93 5 24 3 n_93_0 n_36_102
theorem t_36_99 : e_Sn 36 99 (e_un n_36_99) := u_callVT rfl (s_callV (ci := 9) (C := er_9) (T := et_9) (N := 1) (index := 409) hq_36 ho_36 hy_93 hp_93 hc_93 hi_93 hd_93 (List.mem_of_getElem? (i := 1419) (by decide +kernel)) hs_93 (List.mem_of_getElem? (i := 1421) (by decide +kernel)) rfl (by decide +kernel) rfl : e_Sn 36 99 (o_callV (e_s1 9 93 5) 3 102)) t_93_0 t_36_102
noncomputable def n_36_98 : e_Y := u_ld f_okI f_l1 n_36_99
theorem t_36_98 : e_Sn 36 98 (e_un n_36_98) := u_ldIT f_l1_eq (s_iload (i := .iload_n 1) (len := 1) hq_36 (by decide +kernel) rfl (.inr ⟨1, rfl, rfl, rfl⟩) : e_Sn 36 98 (o_load e_okI 1 99)) t_36_99
noncomputable def n_36_97 : e_Y := u_ld f_okI f_l3 n_36_98
theorem t_36_97 : e_Sn 36 97 (e_un n_36_97) := u_ldIT f_l3_eq (s_iload (i := .iload_n 3) (len := 1) hq_36 (by decide +kernel) rfl (.inr ⟨3, rfl, rfl, rfl⟩) : e_Sn 36 97 (o_load e_okI 3 98)) t_36_98
noncomputable def n_36_94 : e_Y := u_getf 11 7 (u_old (o_getf (e_f1 11 7) 97) n_36_97) n_36_97
theorem t_36_94 : e_Sn 36 94 (e_un n_36_94) := u_getfT (s_getf (C := er_11) (T := et_11) (N := 15) (ref := "Plateroomprinter$World") (index := 406) (ci := 11) (k := 7) hq_36 ho_36 ⟨rfl, by decide, ei_11, (List.mem_of_getElem? (i := 481) (by decide +kernel)), .inl rfl⟩ (by decide +kernel) rfl : e_Sn 36 94 (o_getf (e_f1 11 7) 97)) t_36_97
noncomputable def n_36_91 : e_Y := u_getf 0 1 (u_old (o_getf (e_f1 0 1) 94) n_36_94) n_36_94
theorem t_36_91 : e_Sn 36 91 (e_un n_36_91) := u_getfT (s_getf (C := er_0) (T := et_0) (N := 17) (ref := "Plateroomprinter") (index := 19) (ci := 0) (k := 1) hq_36 ho_36 ⟨rfl, by decide, ei_0, (List.mem_of_getElem? (i := 681) (by decide +kernel)), .inl rfl⟩ (by decide +kernel) rfl : e_Sn 36 91 (o_getf (e_f1 0 1) 94)) t_36_94
noncomputable def n_36_90 : e_Y := u_ld f_okA f_l0 n_36_91
theorem t_36_90 : e_Sn 36 90 (e_un n_36_90) := u_ldAT f_l0_eq (s_aload (i := .aload_n 0) (len := 1) hq_36 (by decide +kernel) rfl (.inr ⟨0, rfl, rfl, rfl⟩) : e_Sn 36 90 (o_load e_okR 0 91)) t_36_91
noncomputable def n_36_88 : e_Y := u_ld f_okI f_l5 n_36_90
theorem t_36_88 : e_Sn 36 88 (e_un n_36_88) := u_ldIT f_l5_eq (s_iload (i := .iload 5) (len := 2) hq_36 (by decide +kernel) rfl (.inl ⟨rfl, rfl⟩) : e_Sn 36 88 (o_load e_okI 5 90)) t_36_90
noncomputable def n_36_32 : e_Y := u_if y_ge0 (u_old2 (o_iflt 88 35) 88 n_36_88 (u_at 35)) n_36_88 (u_at 35)
theorem t_36_32 : e_Sn 36 32 (e_un n_36_32) := u_ifltT rfl (s_iflt (off := (56)) hq_36 (by decide +kernel) rfl rfl : e_Sn 36 32 (o_iflt 88 35)) t_36_88 u_atT
noncomputable def n_36_30 : e_Y := u_ld f_okI f_l4 n_36_32
theorem t_36_30 : e_Sn 36 30 (e_un n_36_30) := u_ldIT f_l4_eq (s_iload (i := .iload 4) (len := 2) hq_36 (by decide +kernel) rfl (.inl ⟨rfl, rfl⟩) : e_Sn 36 30 (o_load e_okI 4 32)) t_36_32
noncomputable def n_36_27 : e_Y := u_jmp y_ge (u_old2 (o_clt 30 88) 30 n_36_30 n_36_88) n_36_30 n_36_88
theorem t_36_27 : e_Sn 36 27 (e_un n_36_27) := u_cltT rfl (s_cge (off := (61)) hq_36 (by decide +kernel) rfl rfl : e_Sn 36 27 (o_clt 30 88)) t_36_30 t_36_88
noncomputable def n_36_26 : e_Y := u_push (.inl 2147483652) n_36_27
theorem t_36_26 : e_Sn 36 26 (e_un n_36_26) := u_pushT (s_iconst (n := (4)) hq_36 (by decide +kernel) rfl ⟨by decide +kernel, by decide +kernel⟩ : e_Sn 36 26 (o_push (.inl 2147483652) 27)) t_36_27
noncomputable def n_36_24 : e_Y := u_ld f_okI f_l6 n_36_26
theorem t_36_24 : e_Sn 36 24 (e_un n_36_24) := u_ldIT f_l6_eq (s_iload (i := .iload 6) (len := 2) hq_36 (by decide +kernel) rfl (.inl ⟨rfl, rfl⟩) : e_Sn 36 24 (o_load e_okI 6 26)) t_36_26
noncomputable def n_36_22 : e_Y := u_st f_okI f_s6 n_36_24
theorem t_36_22 : e_Sn 36 22 (e_un n_36_22) := u_stIT (fun _ _ _ => f_s6_eq) (s_istore (i := .istore 6) (len := 2) hq_36 (by decide +kernel) rfl (.inl ⟨rfl, rfl⟩) : e_Sn 36 22 (o_store e_okI 6 24)) t_36_24
noncomputable def n_36_21 : e_Y := u_push (.inl 2147483648) n_36_22
theorem t_36_21 : e_Sn 36 21 (e_un n_36_21) := u_pushT (s_iconst (n := (0)) hq_36 (by decide +kernel) rfl ⟨by decide +kernel, by decide +kernel⟩ : e_Sn 36 21 (o_push (.inl 2147483648) 22)) t_36_22
noncomputable def n_36_19 : e_Y := u_st f_okI f_s5 n_36_21
theorem t_36_19 : e_Sn 36 19 (e_un n_36_19) := u_stIT (fun _ _ _ => f_s5_eq) (s_istore (i := .istore 5) (len := 2) hq_36 (by decide +kernel) rfl (.inl ⟨rfl, rfl⟩) : e_Sn 36 19 (o_store e_okI 5 21)) t_36_21
noncomputable def n_36_18 : e_Y := u_push (.inl 2147483648) n_36_19
theorem t_36_18 : e_Sn 36 18 (e_un n_36_18) := u_pushT (s_iconst (n := (0)) hq_36 (by decide +kernel) rfl ⟨by decide +kernel, by decide +kernel⟩ : e_Sn 36 18 (o_push (.inl 2147483648) 19)) t_36_19
noncomputable def n_36_16 : e_Y := u_st f_okI f_s4 n_36_18
theorem t_36_16 : e_Sn 36 16 (e_un n_36_16) := u_stIT (fun _ _ _ => f_s4_eq) (s_istore (i := .istore 4) (len := 2) hq_36 (by decide +kernel) rfl (.inl ⟨rfl, rfl⟩) : e_Sn 36 16 (o_store e_okI 4 18)) t_36_18
noncomputable def n_36_13 : e_Y := u_callV 0 34 4 23 3 n_34_0 n_36_16
theorem t_36_13 : e_Sn 36 13 (e_un n_36_13) := u_callVT rfl (s_callV (ci := 0) (C := er_0) (T := et_0) (N := 17) (index := 484) hq_36 ho_36 hy_34 hp_34 hc_34 hi_34 hd_34 (List.mem_of_getElem? (i := 1398) (by decide +kernel)) hs_34 (List.mem_of_getElem? (i := 1400) (by decide +kernel)) rfl (by decide +kernel) rfl : e_Sn 36 13 (o_callV (e_s1 0 34 4) 3 16)) t_34_0 t_36_16
noncomputable def n_36_12 : e_Y := u_ld f_okI f_l1 n_36_13
theorem t_36_12 : e_Sn 36 12 (e_un n_36_12) := u_ldIT f_l1_eq (s_iload (i := .iload_n 1) (len := 1) hq_36 (by decide +kernel) rfl (.inr ⟨1, rfl, rfl, rfl⟩) : e_Sn 36 12 (o_load e_okI 1 13)) t_36_13
noncomputable def n_36_11 : e_Y := u_ld f_okI f_l3 n_36_12
theorem t_36_11 : e_Sn 36 11 (e_un n_36_11) := u_ldIT f_l3_eq (s_iload (i := .iload_n 3) (len := 1) hq_36 (by decide +kernel) rfl (.inr ⟨3, rfl, rfl, rfl⟩) : e_Sn 36 11 (o_load e_okI 3 12)) t_36_12
noncomputable def n_36_10 : e_Y := u_ld f_okA f_l0 n_36_11
theorem t_36_10 : e_Sn 36 10 (e_un n_36_10) := u_ldAT f_l0_eq (s_aload (i := .aload_n 0) (len := 1) hq_36 (by decide +kernel) rfl (.inr ⟨0, rfl, rfl, rfl⟩) : e_Sn 36 10 (o_load e_okR 0 11)) t_36_11
noncomputable def n_36_7 : e_Y := u_jmp y_ge (u_old2 (o_clt 10 113) 10 n_36_10 n_36_113) n_36_10 n_36_113
theorem t_36_7 : e_Sn 36 7 (e_un n_36_7) := u_cltT rfl (s_cge (off := (106)) hq_36 (by decide +kernel) rfl rfl : e_Sn 36 7 (o_clt 10 113)) t_36_10 t_36_113
noncomputable def n_36_5 : e_Y := u_push (.inl 2147483680) n_36_7
theorem t_36_5 : e_Sn 36 5 (e_un n_36_5) := u_pushT (s_bipush (n := (32)) hq_36 (by decide +kernel) rfl ⟨by decide +kernel, by decide +kernel⟩ : e_Sn 36 5 (o_push (.inl 2147483680) 7)) t_36_7
noncomputable def n_36_4 : e_Y := u_ld f_okI f_l3 n_36_5
theorem t_36_4 : e_Sn 36 4 (e_un n_36_4) := u_ldIT f_l3_eq (s_iload (i := .iload_n 3) (len := 1) hq_36 (by decide +kernel) rfl (.inr ⟨3, rfl, rfl, rfl⟩) : e_Sn 36 4 (o_load e_okI 3 5)) t_36_5
noncomputable def n_36_3 : e_Y := u_st f_okI f_s3 n_36_4
theorem t_36_3 : e_Sn 36 3 (e_un n_36_3) := u_stIT (fun _ _ _ => f_s3_eq) (s_istore (i := .istore_n 3) (len := 1) hq_36 (by decide +kernel) rfl (.inr ⟨3, rfl, rfl, rfl⟩) : e_Sn 36 3 (o_store e_okI 3 4)) t_36_4
noncomputable def n_36_2 : e_Y := u_push (.inl 2147483648) n_36_3
theorem t_36_2 : e_Sn 36 2 (e_un n_36_2) := u_pushT (s_iconst (n := (0)) hq_36 (by decide +kernel) rfl ⟨by decide +kernel, by decide +kernel⟩ : e_Sn 36 2 (o_push (.inl 2147483648) 3)) t_36_3
noncomputable def n_36_1 : e_Y := u_st f_okI f_s2 n_36_2
theorem t_36_1 : e_Sn 36 1 (e_un n_36_1) := u_stIT (fun _ _ _ => f_s2_eq) (s_istore (i := .istore_n 2) (len := 1) hq_36 (by decide +kernel) rfl (.inr ⟨2, rfl, rfl, rfl⟩) : e_Sn 36 1 (o_store e_okI 2 2)) t_36_2
noncomputable def n_36_0 : e_Y := u_push (.inl 2147483649) n_36_1
theorem t_36_0 : e_Sn 36 0 (e_un n_36_0) := u_pushT (s_iconst (n := (1)) hq_36 (by decide +kernel) rfl ⟨by decide +kernel, by decide +kernel⟩ : e_Sn 36 0 (o_push (.inl 2147483649) 1)) t_36_1
noncomputable def e_tb_36 : e_X := (e_br 4 (e_lf 0 (e_un n_36_0)) (e_lf 4 (e_un n_36_4)))
theorem e_tk_36 : e_Tb 36 e_tb_36 := (e_brT (e_lfT t_36_0) (e_lfT t_36_4))
theorem hq_39 : (e_ml[39]?).map (·.2.1) = some prog_1_method_52_code := rfl
theorem ho_39 : (e_ml[39]?).map (·.1.cls) = some "Plateroomprinter" := rfl
theorem hr_39 : (e_ml[39]?).map (·.2.2.2) = some (some .boolean) := rfl
noncomputable def n_39_84 : e_Y := u_tab (o_ret e_okZ)
theorem t_39_84 : e_Sn 39 84 (e_un n_39_84) := u_tabT (s_zret hq_39 hr_39 (by decide +kernel) : e_Sn 39 84 (o_ret e_okZ))
noncomputable def n_39_83 : e_Y := u_ld f_okI f_l3 n_39_84
theorem t_39_83 : e_Sn 39 83 (e_un n_39_83) := u_ldIT f_l3_eq (s_iload (i := .iload_n 3) (len := 1) hq_39 (by decide +kernel) rfl (.inr ⟨3, rfl, rfl, rfl⟩) : e_Sn 39 83 (o_load e_okI 3 84)) t_39_84
noncomputable def n_39_80 : e_Y := (u_at 28)
theorem t_39_80 : e_Sn 39 80 (e_un n_39_80) := u_gotoT (s_goto (off := (-52)) hq_39 (by decide +kernel) rfl : e_Sn 39 80 (o_goto 28)) u_atT
noncomputable def n_39_77 : e_Y := u_inc f_l4 f_s4 1 n_39_80
theorem t_39_77 : e_Sn 39 77 (e_un n_39_77) := u_incT f_l4_eq (fun _ _ _ => f_s4_eq) (s_iinc (zz := (1)) hq_39 (by decide +kernel) rfl (by decide +kernel) ⟨by decide, by decide⟩ : e_Sn 39 77 (o_iinc 4 1 80)) t_39_80
noncomputable def n_39_45 : e_Y := u_if y_ne0 (u_old2 (o_ifeq 77 48) 77 n_39_77 (u_at 48)) n_39_77 (u_at 48)
theorem t_39_45 : e_Sn 39 45 (e_un n_39_45) := u_ifeqT rfl (s_ifeq (off := (32)) hq_39 (by decide +kernel) rfl rfl : e_Sn 39 45 (o_ifeq 77 48)) t_39_77 u_atT
noncomputable def n_39_42 : e_Y := u_callS 26 2 21 2 n_26_0 n_39_45
theorem t_39_42 : e_Sn 39 42 (e_un n_39_42) := u_callST rfl (s_callS (index := 319) hq_39 ho_39 hy_26 hp_26 hc_26 hi_26 hd_26 (List.mem_of_getElem? (i := 1371) (by decide +kernel)) hs_26 (by decide +kernel) rfl : e_Sn 39 42 (o_callS 26 2 2 45)) t_26_0 t_39_45
noncomputable def n_39_41 : e_Y := u_bin a_isub (u_old (o_isub 42) n_39_42) n_39_42
theorem t_39_41 : e_Sn 39 41 (e_un n_39_41) := u_isubT (s_isub hq_39 (by decide +kernel) rfl : e_Sn 39 41 (o_isub 42)) t_39_42
noncomputable def n_39_40 : e_Y := u_push (.inl 2147483650) n_39_41
theorem t_39_40 : e_Sn 39 40 (e_un n_39_40) := u_pushT (s_iconst (n := (2)) hq_39 (by decide +kernel) rfl ⟨by decide +kernel, by decide +kernel⟩ : e_Sn 39 40 (o_push (.inl 2147483650) 41)) t_39_41
noncomputable def n_39_39 : e_Y := u_ld f_okI f_l1 n_39_40
theorem t_39_39 : e_Sn 39 39 (e_un n_39_39) := u_ldIT f_l1_eq (s_iload (i := .iload_n 1) (len := 1) hq_39 (by decide +kernel) rfl (.inr ⟨1, rfl, rfl, rfl⟩) : e_Sn 39 39 (o_load e_okI 1 40)) t_39_40
noncomputable def n_39_38 : e_Y := u_bin a_iadd (u_old (o_iadd 39) n_39_39) n_39_39
theorem t_39_38 : e_Sn 39 38 (e_un n_39_38) := u_iaddT (s_iadd hq_39 (by decide +kernel) rfl : e_Sn 39 38 (o_iadd 39)) t_39_39
noncomputable def n_39_37 : e_Y := u_push (.inl 2147483651) n_39_38
theorem t_39_37 : e_Sn 39 37 (e_un n_39_37) := u_pushT (s_iconst (n := (3)) hq_39 (by decide +kernel) rfl ⟨by decide +kernel, by decide +kernel⟩ : e_Sn 39 37 (o_push (.inl 2147483651) 38)) t_39_38
noncomputable def n_39_35 : e_Y := u_ld f_okI f_l4 n_39_37
theorem t_39_35 : e_Sn 39 35 (e_un n_39_35) := u_ldIT f_l4_eq (s_iload (i := .iload 4) (len := 2) hq_39 (by decide +kernel) rfl (.inl ⟨rfl, rfl⟩) : e_Sn 39 35 (o_load e_okI 4 37)) t_39_37
noncomputable def n_39_32 : e_Y := u_jmp y_ge (u_old2 (o_clt 35 83) 35 n_39_35 n_39_83) n_39_35 n_39_83
theorem t_39_32 : e_Sn 39 32 (e_un n_39_32) := u_cltT rfl (s_cge (off := (51)) hq_39 (by decide +kernel) rfl rfl : e_Sn 39 32 (o_clt 35 83)) t_39_35 t_39_83
noncomputable def n_39_30 : e_Y := u_push (.inl 2147483680) n_39_32
theorem t_39_30 : e_Sn 39 30 (e_un n_39_30) := u_pushT (s_bipush (n := (32)) hq_39 (by decide +kernel) rfl ⟨by decide +kernel, by decide +kernel⟩ : e_Sn 39 30 (o_push (.inl 2147483680) 32)) t_39_32
noncomputable def n_39_28 : e_Y := u_ld f_okI f_l4 n_39_30
theorem t_39_28 : e_Sn 39 28 (e_un n_39_28) := u_ldIT f_l4_eq (s_iload (i := .iload 4) (len := 2) hq_39 (by decide +kernel) rfl (.inl ⟨rfl, rfl⟩) : e_Sn 39 28 (o_load e_okI 4 30)) t_39_30
noncomputable def n_39_26 : e_Y := u_st f_okI f_s4 n_39_28
theorem t_39_26 : e_Sn 39 26 (e_un n_39_26) := u_stIT (fun _ _ _ => f_s4_eq) (s_istore (i := .istore 4) (len := 2) hq_39 (by decide +kernel) rfl (.inl ⟨rfl, rfl⟩) : e_Sn 39 26 (o_store e_okI 4 28)) t_39_28
noncomputable def n_39_25 : e_Y := u_push (.inl 2147483648) n_39_26
theorem t_39_25 : e_Sn 39 25 (e_un n_39_25) := u_pushT (s_iconst (n := (0)) hq_39 (by decide +kernel) rfl ⟨by decide +kernel, by decide +kernel⟩ : e_Sn 39 25 (o_push (.inl 2147483648) 26)) t_39_26
noncomputable def n_39_24 : e_Y := u_st f_okI f_s3 n_39_25
theorem t_39_24 : e_Sn 39 24 (e_un n_39_24) := u_stIT (fun _ _ _ => f_s3_eq) (s_istore (i := .istore_n 3) (len := 1) hq_39 (by decide +kernel) rfl (.inr ⟨3, rfl, rfl, rfl⟩) : e_Sn 39 24 (o_store e_okI 3 25)) t_39_25
noncomputable def n_39_23 : e_Y := u_push (.inl 2147483649) n_39_24
theorem t_39_23 : e_Sn 39 23 (e_un n_39_23) := u_pushT (s_iconst (n := (1)) hq_39 (by decide +kernel) rfl ⟨by decide +kernel, by decide +kernel⟩ : e_Sn 39 23 (o_push (.inl 2147483649) 24)) t_39_24
noncomputable def n_39_20 : e_Y := u_callV 0 19 5 24 5 n_19_0 n_39_23
theorem t_39_20 : e_Sn 39 20 (e_un n_39_20) := u_callVT rfl (s_callV (ci := 0) (C := er_0) (T := et_0) (N := 17) (index := 330) hq_39 ho_39 hy_19 hp_19 hc_19 hi_19 hd_19 (List.mem_of_getElem? (i := 1363) (by decide +kernel)) hs_19 (List.mem_of_getElem? (i := 55) (by decide +kernel)) rfl (by decide +kernel) rfl : e_Sn 39 20 (o_callV (e_s1 0 19 5) 5 23)) t_19_0 t_39_23
noncomputable def n_39_17 : e_Y := u_getf 0 8 (u_old (o_getf (e_f1 0 8) 20) n_39_20) n_39_20
theorem t_39_17 : e_Sn 39 17 (e_un n_39_17) := u_getfT (s_getf (C := er_0) (T := et_0) (N := 17) (ref := "Plateroomprinter") (index := 62) (ci := 0) (k := 8) hq_39 ho_39 ⟨rfl, by decide, ei_0, (List.mem_of_getElem? (i := 688) (by decide +kernel)), .inl rfl⟩ (by decide +kernel) rfl : e_Sn 39 17 (o_getf (e_f1 0 8) 20)) t_39_20
noncomputable def n_39_16 : e_Y := u_ld f_okA f_l0 n_39_17
theorem t_39_16 : e_Sn 39 16 (e_un n_39_16) := u_ldAT f_l0_eq (s_aload (i := .aload_n 0) (len := 1) hq_39 (by decide +kernel) rfl (.inr ⟨0, rfl, rfl, rfl⟩) : e_Sn 39 16 (o_load e_okR 0 17)) t_39_17
noncomputable def n_39_15 : e_Y := u_ld f_okI f_l2 n_39_16
theorem t_39_15 : e_Sn 39 15 (e_un n_39_15) := u_ldIT f_l2_eq (s_iload (i := .iload_n 2) (len := 1) hq_39 (by decide +kernel) rfl (.inr ⟨2, rfl, rfl, rfl⟩) : e_Sn 39 15 (o_load e_okI 2 16)) t_39_16
noncomputable def n_39_13 : e_Y := u_push (.inl 2147483646) n_39_15
theorem t_39_13 : e_Sn 39 13 (e_un n_39_13) := u_pushT (s_bipush (n := (-2)) hq_39 (by decide +kernel) rfl ⟨by decide +kernel, by decide +kernel⟩ : e_Sn 39 13 (o_push (.inl 2147483646) 15)) t_39_15
noncomputable def n_39_12 : e_Y := u_push (.inl 2147483651) n_39_13
theorem t_39_12 : e_Sn 39 12 (e_un n_39_12) := u_pushT (s_iconst (n := (3)) hq_39 (by decide +kernel) rfl ⟨by decide +kernel, by decide +kernel⟩ : e_Sn 39 12 (o_push (.inl 2147483651) 13)) t_39_13
noncomputable def n_39_11 : e_Y := u_ld f_okA f_l0 n_39_12
theorem t_39_11 : e_Sn 39 11 (e_un n_39_11) := u_ldAT f_l0_eq (s_aload (i := .aload_n 0) (len := 1) hq_39 (by decide +kernel) rfl (.inr ⟨0, rfl, rfl, rfl⟩) : e_Sn 39 11 (o_load e_okR 0 12)) t_39_12
noncomputable def n_39_8 : e_Y := u_callV 0 19 5 24 5 n_19_0 n_39_11
theorem t_39_8 : e_Sn 39 8 (e_un n_39_8) := u_callVT rfl (s_callV (ci := 0) (C := er_0) (T := et_0) (N := 17) (index := 330) hq_39 ho_39 hy_19 hp_19 hc_19 hi_19 hd_19 (List.mem_of_getElem? (i := 1363) (by decide +kernel)) hs_19 (List.mem_of_getElem? (i := 55) (by decide +kernel)) rfl (by decide +kernel) rfl : e_Sn 39 8 (o_callV (e_s1 0 19 5) 5 11)) t_19_0 t_39_11
noncomputable def n_39_5 : e_Y := u_getf 0 7 (u_old (o_getf (e_f1 0 7) 8) n_39_8) n_39_8
theorem t_39_5 : e_Sn 39 5 (e_un n_39_5) := u_getfT (s_getf (C := er_0) (T := et_0) (N := 17) (ref := "Plateroomprinter") (index := 58) (ci := 0) (k := 7) hq_39 ho_39 ⟨rfl, by decide, ei_0, (List.mem_of_getElem? (i := 687) (by decide +kernel)), .inl rfl⟩ (by decide +kernel) rfl : e_Sn 39 5 (o_getf (e_f1 0 7) 8)) t_39_8
noncomputable def n_39_4 : e_Y := u_ld f_okA f_l0 n_39_5
theorem t_39_4 : e_Sn 39 4 (e_un n_39_4) := u_ldAT f_l0_eq (s_aload (i := .aload_n 0) (len := 1) hq_39 (by decide +kernel) rfl (.inr ⟨0, rfl, rfl, rfl⟩) : e_Sn 39 4 (o_load e_okR 0 5)) t_39_5
noncomputable def n_39_3 : e_Y := u_ld f_okI f_l2 n_39_4
theorem t_39_3 : e_Sn 39 3 (e_un n_39_3) := u_ldIT f_l2_eq (s_iload (i := .iload_n 2) (len := 1) hq_39 (by decide +kernel) rfl (.inr ⟨2, rfl, rfl, rfl⟩) : e_Sn 39 3 (o_load e_okI 2 4)) t_39_4
noncomputable def n_39_2 : e_Y := u_push (.inl 2147483648) n_39_3
theorem t_39_2 : e_Sn 39 2 (e_un n_39_2) := u_pushT (s_iconst (n := (0)) hq_39 (by decide +kernel) rfl ⟨by decide +kernel, by decide +kernel⟩ : e_Sn 39 2 (o_push (.inl 2147483648) 3)) t_39_3
noncomputable def n_39_1 : e_Y := u_push (.inl 2147483648) n_39_2
theorem t_39_1 : e_Sn 39 1 (e_un n_39_1) := u_pushT (s_iconst (n := (0)) hq_39 (by decide +kernel) rfl ⟨by decide +kernel, by decide +kernel⟩ : e_Sn 39 1 (o_push (.inl 2147483648) 2)) t_39_2
noncomputable def n_39_0 : e_Y := u_ld f_okA f_l0 n_39_1
theorem t_39_0 : e_Sn 39 0 (e_un n_39_0) := u_ldAT f_l0_eq (s_aload (i := .aload_n 0) (len := 1) hq_39 (by decide +kernel) rfl (.inr ⟨0, rfl, rfl, rfl⟩) : e_Sn 39 0 (o_load e_okR 0 1)) t_39_1
noncomputable def e_tb_39 : e_X := (e_br 28 (e_lf 0 (e_un n_39_0)) (e_lf 28 (e_un n_39_28)))
theorem e_tk_39 : e_Tb 39 e_tb_39 := (e_brT (e_lfT t_39_0) (e_lfT t_39_28))
theorem hq_57 : (e_ml[57]?).map (·.2.1) = some prog_1_method_56_code := rfl
theorem ho_57 : (e_ml[57]?).map (·.1.cls) = some "Plateroomprinter" := rfl
theorem hr_57 : (e_ml[57]?).map (·.2.2.2) = some (some .boolean) := rfl
noncomputable def n_57_106 : e_Y := u_tab (o_ret e_okZ)
theorem t_57_106 : e_Sn 57 106 (e_un n_57_106) := u_tabT (s_zret hq_57 hr_57 (by decide +kernel) : e_Sn 57 106 (o_ret e_okZ))
noncomputable def n_57_102 : e_Y := n_57_106
theorem t_57_102 : e_Sn 57 102 (e_un n_57_102) := u_gotoT (s_goto (off := (4)) hq_57 (by decide +kernel) rfl : e_Sn 57 102 (o_goto 106)) t_57_106
noncomputable def n_57_101 : e_Y := u_push (.inl 2147483649) n_57_102
theorem t_57_101 : e_Sn 57 101 (e_un n_57_101) := u_pushT (s_iconst (n := (1)) hq_57 (by decide +kernel) rfl ⟨by decide +kernel, by decide +kernel⟩ : e_Sn 57 101 (o_push (.inl 2147483649) 102)) t_57_102
noncomputable def n_57_98 : e_Y := u_jmp y_ne (u_old2 (o_ceq 101 105) 101 n_57_101 (u_at 105)) n_57_101 (u_at 105)
theorem t_57_98 : e_Sn 57 98 (e_un n_57_98) := u_ceqT rfl (s_cne (off := (7)) hq_57 (by decide +kernel) rfl rfl : e_Sn 57 98 (o_ceq 101 105)) t_57_101 u_atT
noncomputable def n_57_95 : e_Y := u_push (.inl 2147484672) n_57_98
theorem t_57_95 : e_Sn 57 95 (e_un n_57_95) := u_pushT (s_sipush (n := (1024)) hq_57 (by decide +kernel) rfl ⟨by decide +kernel, by decide +kernel⟩ : e_Sn 57 95 (o_push (.inl 2147484672) 98)) t_57_98
noncomputable def n_57_94 : e_Y := u_ld f_okI f_l3 n_57_95
theorem t_57_94 : e_Sn 57 94 (e_un n_57_94) := u_ldIT f_l3_eq (s_iload (i := .iload_n 3) (len := 1) hq_57 (by decide +kernel) rfl (.inr ⟨3, rfl, rfl, rfl⟩) : e_Sn 57 94 (o_load e_okI 3 95)) t_57_95
noncomputable def n_57_91 : e_Y := (u_at 9)
theorem t_57_91 : e_Sn 57 91 (e_un n_57_91) := u_gotoT (s_goto (off := (-82)) hq_57 (by decide +kernel) rfl : e_Sn 57 91 (o_goto 9)) u_atT
noncomputable def n_57_88 : e_Y := u_inc f_l4 f_s4 1 n_57_91
theorem t_57_88 : e_Sn 57 88 (e_un n_57_88) := u_incT f_l4_eq (fun _ _ _ => f_s4_eq) (s_iinc (zz := (1)) hq_57 (by decide +kernel) rfl (by decide +kernel) ⟨by decide, by decide⟩ : e_Sn 57 88 (o_iinc 4 1 91)) t_57_91
noncomputable def n_57_87 : e_Y := u_st f_okI f_s3 n_57_88
theorem t_57_87 : e_Sn 57 87 (e_un n_57_87) := u_stIT (fun _ _ _ => f_s3_eq) (s_istore (i := .istore_n 3) (len := 1) hq_57 (by decide +kernel) rfl (.inr ⟨3, rfl, rfl, rfl⟩) : e_Sn 57 87 (o_store e_okI 3 88)) t_57_88
noncomputable def n_57_85 : e_Y := u_ld f_okI f_l5 n_57_87
theorem t_57_85 : e_Sn 57 85 (e_un n_57_85) := u_ldIT f_l5_eq (s_iload (i := .iload 5) (len := 2) hq_57 (by decide +kernel) rfl (.inl ⟨rfl, rfl⟩) : e_Sn 57 85 (o_load e_okI 5 87)) t_57_87
noncomputable def n_57_51 : e_Y := u_jmp y_ge (u_old2 (o_clt 54 85) 54 (u_at 54) n_57_85) (u_at 54) n_57_85
theorem t_57_51 : e_Sn 57 51 (e_un n_57_51) := u_cltT rfl (s_cge (off := (34)) hq_57 (by decide +kernel) rfl rfl : e_Sn 57 51 (o_clt 54 85)) u_atT t_57_85
noncomputable def n_57_49 : e_Y := u_ld f_okI f_l5 n_57_51
theorem t_57_49 : e_Sn 57 49 (e_un n_57_49) := u_ldIT f_l5_eq (s_iload (i := .iload 5) (len := 2) hq_57 (by decide +kernel) rfl (.inl ⟨rfl, rfl⟩) : e_Sn 57 49 (o_load e_okI 5 51)) t_57_51
noncomputable def n_57_47 : e_Y := u_ld f_okI f_l6 n_57_49
theorem t_57_47 : e_Sn 57 47 (e_un n_57_47) := u_ldIT f_l6_eq (s_iload (i := .iload 6) (len := 2) hq_57 (by decide +kernel) rfl (.inl ⟨rfl, rfl⟩) : e_Sn 57 47 (o_load e_okI 6 49)) t_57_49
noncomputable def n_57_44 : e_Y := u_jmp y_ne (u_old2 (o_ceq 47 85) 47 n_57_47 n_57_85) n_57_47 n_57_85
theorem t_57_44 : e_Sn 57 44 (e_un n_57_44) := u_ceqT rfl (s_cne (off := (41)) hq_57 (by decide +kernel) rfl rfl : e_Sn 57 44 (o_ceq 47 85)) t_57_47 t_57_85
noncomputable def n_57_43 : e_Y := u_push (.inl 2147483649) n_57_44
theorem t_57_43 : e_Sn 57 43 (e_un n_57_43) := u_pushT (s_iconst (n := (1)) hq_57 (by decide +kernel) rfl ⟨by decide +kernel, by decide +kernel⟩ : e_Sn 57 43 (o_push (.inl 2147483649) 44)) t_57_44
noncomputable def n_57_42 : e_Y := u_old (o_irem 43) n_57_43
theorem t_57_42 : e_Sn 57 42 (e_un n_57_42) := u_oldT (s_irem hq_57 (by decide +kernel) rfl : e_Sn 57 42 (o_irem 43)) t_57_43 e_cg_irem
noncomputable def n_57_41 : e_Y := u_push (.inl 2147483650) n_57_42
theorem t_57_41 : e_Sn 57 41 (e_un n_57_41) := u_pushT (s_iconst (n := (2)) hq_57 (by decide +kernel) rfl ⟨by decide +kernel, by decide +kernel⟩ : e_Sn 57 41 (o_push (.inl 2147483650) 42)) t_57_42
noncomputable def n_57_39 : e_Y := u_ld f_okI f_l4 n_57_41
theorem t_57_39 : e_Sn 57 39 (e_un n_57_39) := u_ldIT f_l4_eq (s_iload (i := .iload 4) (len := 2) hq_57 (by decide +kernel) rfl (.inl ⟨rfl, rfl⟩) : e_Sn 57 39 (o_load e_okI 4 41)) t_57_41
noncomputable def n_57_37 : e_Y := u_st f_okI f_s6 n_57_39
theorem t_57_37 : e_Sn 57 37 (e_un n_57_37) := u_stIT (fun _ _ _ => f_s6_eq) (s_istore (i := .istore 6) (len := 2) hq_57 (by decide +kernel) rfl (.inl ⟨rfl, rfl⟩) : e_Sn 57 37 (o_store e_okI 6 39)) t_57_39
noncomputable def n_57_36 : e_Y := u_ld f_okI f_l3 n_57_37
theorem t_57_36 : e_Sn 57 36 (e_un n_57_36) := u_ldIT f_l3_eq (s_iload (i := .iload_n 3) (len := 1) hq_57 (by decide +kernel) rfl (.inr ⟨3, rfl, rfl, rfl⟩) : e_Sn 57 36 (o_load e_okI 3 37)) t_57_37
noncomputable def n_57_34 : e_Y := u_st f_okI f_s5 n_57_36
theorem t_57_34 : e_Sn 57 34 (e_un n_57_34) := u_stIT (fun _ _ _ => f_s5_eq) (s_istore (i := .istore 5) (len := 2) hq_57 (by decide +kernel) rfl (.inl ⟨rfl, rfl⟩) : e_Sn 57 34 (o_store e_okI 5 36)) t_57_36
noncomputable def n_57_33 : e_Y := u_bin a_iadd (u_old (o_iadd 34) n_57_34) n_57_34
theorem t_57_33 : e_Sn 57 33 (e_un n_57_33) := u_iaddT (s_iadd hq_57 (by decide +kernel) rfl : e_Sn 57 33 (o_iadd 34)) t_57_34
noncomputable def n_57_32 : e_Y := u_ald 0 (u_old (o_ald e_fcs 33) n_57_33) n_57_33
theorem t_57_32 : e_Sn 57 32 (e_un n_57_32) := u_aldT (s_iald hq_57 (by decide +kernel) rfl : e_Sn 57 32 (o_ald e_fcs 33)) t_57_33
noncomputable def n_57_30 : e_Y := u_ld f_okI f_l4 n_57_32
theorem t_57_30 : e_Sn 57 30 (e_un n_57_30) := u_ldIT f_l4_eq (s_iload (i := .iload 4) (len := 2) hq_57 (by decide +kernel) rfl (.inl ⟨rfl, rfl⟩) : e_Sn 57 30 (o_load e_okI 4 32)) t_57_32
noncomputable def n_57_27 : e_Y := u_getf 0 12 (u_old (o_getf (e_f1 0 12) 30) n_57_30) n_57_30
theorem t_57_27 : e_Sn 57 27 (e_un n_57_27) := u_getfT (s_getf (C := er_0) (T := et_0) (N := 17) (ref := "Plateroomprinter") (index := 74) (ci := 0) (k := 12) hq_57 ho_57 ⟨rfl, by decide, ei_0, (List.mem_of_getElem? (i := 692) (by decide +kernel)), .inl rfl⟩ (by decide +kernel) rfl : e_Sn 57 27 (o_getf (e_f1 0 12) 30)) t_57_30
noncomputable def n_57_26 : e_Y := u_ld f_okA f_l0 n_57_27
theorem t_57_26 : e_Sn 57 26 (e_un n_57_26) := u_ldAT f_l0_eq (s_aload (i := .aload_n 0) (len := 1) hq_57 (by decide +kernel) rfl (.inr ⟨0, rfl, rfl, rfl⟩) : e_Sn 57 26 (o_load e_okR 0 27)) t_57_27
noncomputable def n_57_25 : e_Y := u_ld f_okI f_l3 n_57_26
theorem t_57_25 : e_Sn 57 25 (e_un n_57_25) := u_ldIT f_l3_eq (s_iload (i := .iload_n 3) (len := 1) hq_57 (by decide +kernel) rfl (.inr ⟨3, rfl, rfl, rfl⟩) : e_Sn 57 25 (o_load e_okI 3 26)) t_57_26
noncomputable def n_57_22 : e_Y := u_jmp y_ge (u_old2 (o_clt 25 94) 25 n_57_25 n_57_94) n_57_25 n_57_94
theorem t_57_22 : e_Sn 57 22 (e_un n_57_22) := u_cltT rfl (s_cge (off := (72)) hq_57 (by decide +kernel) rfl rfl : e_Sn 57 22 (o_clt 25 94)) t_57_25 t_57_94
noncomputable def n_57_21 : e_Y := u_old (o_alen e_fcs 22) n_57_22
theorem t_57_21 : e_Sn 57 21 (e_un n_57_21) := u_oldT (s_alen hq_57 (by decide +kernel) rfl : e_Sn 57 21 (o_alen e_fcs 22)) t_57_22 (e_cg_alen e_fcs)
noncomputable def n_57_18 : e_Y := u_getf 0 12 (u_old (o_getf (e_f1 0 12) 21) n_57_21) n_57_21
theorem t_57_18 : e_Sn 57 18 (e_un n_57_18) := u_getfT (s_getf (C := er_0) (T := et_0) (N := 17) (ref := "Plateroomprinter") (index := 74) (ci := 0) (k := 12) hq_57 ho_57 ⟨rfl, by decide, ei_0, (List.mem_of_getElem? (i := 692) (by decide +kernel)), .inl rfl⟩ (by decide +kernel) rfl : e_Sn 57 18 (o_getf (e_f1 0 12) 21)) t_57_21
noncomputable def n_57_17 : e_Y := u_ld f_okA f_l0 n_57_18
theorem t_57_17 : e_Sn 57 17 (e_un n_57_17) := u_ldAT f_l0_eq (s_aload (i := .aload_n 0) (len := 1) hq_57 (by decide +kernel) rfl (.inr ⟨0, rfl, rfl, rfl⟩) : e_Sn 57 17 (o_load e_okR 0 18)) t_57_18
noncomputable def n_57_15 : e_Y := u_ld f_okI f_l4 n_57_17
theorem t_57_15 : e_Sn 57 15 (e_un n_57_15) := u_ldIT f_l4_eq (s_iload (i := .iload 4) (len := 2) hq_57 (by decide +kernel) rfl (.inl ⟨rfl, rfl⟩) : e_Sn 57 15 (o_load e_okI 4 17)) t_57_17
noncomputable def n_57_12 : e_Y := u_jmp y_ge (u_old2 (o_clt 15 94) 15 n_57_15 n_57_94) n_57_15 n_57_94
theorem t_57_12 : e_Sn 57 12 (e_un n_57_12) := u_cltT rfl (s_cge (off := (82)) hq_57 (by decide +kernel) rfl rfl : e_Sn 57 12 (o_clt 15 94)) t_57_15 t_57_94
noncomputable def n_57_11 : e_Y := u_ld f_okI f_l1 n_57_12
theorem t_57_11 : e_Sn 57 11 (e_un n_57_11) := u_ldIT f_l1_eq (s_iload (i := .iload_n 1) (len := 1) hq_57 (by decide +kernel) rfl (.inr ⟨1, rfl, rfl, rfl⟩) : e_Sn 57 11 (o_load e_okI 1 12)) t_57_12
noncomputable def n_57_9 : e_Y := u_ld f_okI f_l4 n_57_11
theorem t_57_9 : e_Sn 57 9 (e_un n_57_9) := u_ldIT f_l4_eq (s_iload (i := .iload 4) (len := 2) hq_57 (by decide +kernel) rfl (.inl ⟨rfl, rfl⟩) : e_Sn 57 9 (o_load e_okI 4 11)) t_57_11
noncomputable def n_57_7 : e_Y := u_st f_okI f_s4 n_57_9
theorem t_57_7 : e_Sn 57 7 (e_un n_57_7) := u_stIT (fun _ _ _ => f_s4_eq) (s_istore (i := .istore 4) (len := 2) hq_57 (by decide +kernel) rfl (.inl ⟨rfl, rfl⟩) : e_Sn 57 7 (o_store e_okI 4 9)) t_57_9
noncomputable def n_57_6 : e_Y := u_push (.inl 2147483648) n_57_7
theorem t_57_6 : e_Sn 57 6 (e_un n_57_6) := u_pushT (s_iconst (n := (0)) hq_57 (by decide +kernel) rfl ⟨by decide +kernel, by decide +kernel⟩ : e_Sn 57 6 (o_push (.inl 2147483648) 7)) t_57_7
noncomputable def n_57_5 : e_Y := u_st f_okI f_s3 n_57_6
theorem t_57_5 : e_Sn 57 5 (e_un n_57_5) := u_stIT (fun _ _ _ => f_s3_eq) (s_istore (i := .istore_n 3) (len := 1) hq_57 (by decide +kernel) rfl (.inr ⟨3, rfl, rfl, rfl⟩) : e_Sn 57 5 (o_store e_okI 3 6)) t_57_6
noncomputable def n_57_4 : e_Y := u_push (.inl 2147483648) n_57_5
theorem t_57_4 : e_Sn 57 4 (e_un n_57_4) := u_pushT (s_iconst (n := (0)) hq_57 (by decide +kernel) rfl ⟨by decide +kernel, by decide +kernel⟩ : e_Sn 57 4 (o_push (.inl 2147483648) 5)) t_57_5
noncomputable def n_57_1 : e_Y := u_callS 4 2 21 1 n_4_0 n_57_4
theorem t_57_1 : e_Sn 57 1 (e_un n_57_1) := u_callST rfl (s_callS (index := 340) hq_57 ho_57 hy_4 hp_4 hc_4 hi_4 hd_4 (List.mem_of_getElem? (i := 1258) (by decide +kernel)) hs_4 (by decide +kernel) rfl : e_Sn 57 1 (o_callS 4 2 1 4)) t_4_0 t_57_4
noncomputable def n_57_0 : e_Y := u_ld f_okA f_l2 n_57_1
theorem t_57_0 : e_Sn 57 0 (e_un n_57_0) := u_ldAT f_l2_eq (s_aload (i := .aload_n 2) (len := 1) hq_57 (by decide +kernel) rfl (.inr ⟨2, rfl, rfl, rfl⟩) : e_Sn 57 0 (o_load e_okR 2 1)) t_57_1
noncomputable def e_tb_57 : e_X := (e_br 9 (e_lf 0 (e_un n_57_0)) (e_lf 9 (e_un n_57_9)))
theorem e_tk_57 : e_Tb 57 e_tb_57 := (e_brT (e_lfT t_57_0) (e_lfT t_57_9))
end SN
