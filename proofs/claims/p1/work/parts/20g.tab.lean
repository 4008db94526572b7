/-! TABLES, by program -/
section SN
theorem hq_161 : (e_ml[161]?).map (·.2.1) = some prog_14_method_60_code := rfl
theorem ho_161 : (e_ml[161]?).map (·.1.cls) = some "PlateroomprinterModel" := rfl
theorem hr_161 : (e_ml[161]?).map (·.2.2.2) = some (some .int) := rfl
noncomputable def n_161_136 : e_Y := u_retI
theorem t_161_136 : e_Sn 161 136 (e_un n_161_136) := u_retIT (s_iret hq_161 hr_161 (by decide +kernel) : e_Sn 161 136 (o_ret e_okI))
noncomputable def n_161_133 : e_Y := u_callS 174 6 25 1 n_174_0 n_161_136
theorem t_161_133 : e_Sn 161 133 (e_un n_161_133) := u_callST rfl (s_callS (index := 240) hq_161 ho_161 hy_174 hp_174 hc_174 hi_174 hd_174 (List.mem_of_getElem? (i := 2959) (by decide +kernel)) hs_174 (by decide +kernel) rfl : e_Sn 161 133 (o_callS 174 6 1 136)) t_174_0 t_161_136
noncomputable def n_161_130 : e_Y := u_callS 148 4 23 2 n_148_0 n_161_133
theorem t_161_130 : e_Sn 161 130 (e_un n_161_130) := u_callST rfl (s_callS (index := 291) hq_161 ho_161 hy_148 hp_148 hc_148 hi_148 hd_148 (List.mem_of_getElem? (i := 3014) (by decide +kernel)) hs_148 (by decide +kernel) rfl : e_Sn 161 130 (o_callS 148 4 2 133)) t_148_0 t_161_133
noncomputable def n_161_129 : e_Y := u_push (.inl 2147483648) n_161_130
theorem t_161_129 : e_Sn 161 129 (e_un n_161_129) := u_pushT (s_iconst (n := (0)) hq_161 (by decide +kernel) rfl ⟨by decide +kernel, by decide +kernel⟩ : e_Sn 161 129 (o_push (.inl 2147483648) 130)) t_161_130
noncomputable def n_161_128 : e_Y := u_ld f_okA f_l1 n_161_129
theorem t_161_128 : e_Sn 161 128 (e_un n_161_128) := u_ldAT f_l1_eq (s_aload (i := .aload_n 1) (len := 1) hq_161 (by decide +kernel) rfl (.inr ⟨1, rfl, rfl, rfl⟩) : e_Sn 161 128 (o_load e_okR 1 129)) t_161_129
noncomputable def n_161_127 : e_Y := u_pop n_161_128
theorem t_161_127 : e_Sn 161 127 (e_un n_161_127) := u_popT (s_pop hq_161 (by decide +kernel) rfl : e_Sn 161 127 (o_pop 128)) t_161_128
noncomputable def n_161_124 : e_Y := u_callV 19 225 2 21 2 n_225_0 n_161_127
theorem t_161_124 : e_Sn 161 124 (e_un n_161_124) := u_callVT rfl (s_callV (ci := 19) (C := er_19) (T := et_19) (N := 3) (index := 88) hq_161 ho_161 hy_225 hp_225 hc_225 hi_225 hd_225 (List.mem_of_getElem? (i := 2004) (by decide +kernel)) hs_225 (List.mem_of_getElem? (i := 1822) (by decide +kernel)) rfl (by decide +kernel) rfl : e_Sn 161 124 (o_callV (e_s1 19 225 2) 2 127)) t_225_0 t_161_127
noncomputable def n_161_123 : e_Y := u_ld f_okA f_l2 n_161_124
theorem t_161_123 : e_Sn 161 123 (e_un n_161_123) := u_ldAT f_l2_eq (s_aload (i := .aload_n 2) (len := 1) hq_161 (by decide +kernel) rfl (.inr ⟨2, rfl, rfl, rfl⟩) : e_Sn 161 123 (o_load e_okR 2 124)) t_161_124
noncomputable def n_161_122 : e_Y := u_ld f_okA f_l1 n_161_123
theorem t_161_122 : e_Sn 161 122 (e_un n_161_122) := u_ldAT f_l1_eq (s_aload (i := .aload_n 1) (len := 1) hq_161 (by decide +kernel) rfl (.inr ⟨1, rfl, rfl, rfl⟩) : e_Sn 161 122 (o_load e_okR 1 123)) t_161_123
noncomputable def n_161_119 : e_Y := (u_at 92)
theorem t_161_119 : e_Sn 161 119 (e_un n_161_119) := u_gotoT (s_goto (off := (-27)) hq_161 (by decide +kernel) rfl : e_Sn 161 119 (o_goto 92)) u_atT
noncomputable def n_161_116 : e_Y := u_inc f_l6 f_s6 1 n_161_119
theorem t_161_116 : e_Sn 161 116 (e_un n_161_116) := u_incT f_l6_eq (fun _ _ _ => f_s6_eq) (s_iinc (zz := (1)) hq_161 (by decide +kernel) rfl (by decide +kernel) ⟨by decide, by decide⟩ : e_Sn 161 116 (o_iinc 6 1 119)) t_161_119
noncomputable def n_161_115 : e_Y := u_pop n_161_116
theorem t_161_115 : e_Sn 161 115 (e_un n_161_115) := u_popT (s_pop hq_161 (by decide +kernel) rfl : e_Sn 161 115 (o_pop 116)) t_161_116
noncomputable def n_161_112 : e_Y := u_callV 19 225 2 21 2 n_225_0 n_161_115
theorem t_161_112 : e_Sn 161 112 (e_un n_161_112) := u_callVT rfl (s_callV (ci := 19) (C := er_19) (T := et_19) (N := 3) (index := 88) hq_161 ho_161 hy_225 hp_225 hc_225 hi_225 hd_225 (List.mem_of_getElem? (i := 2004) (by decide +kernel)) hs_225 (List.mem_of_getElem? (i := 1822) (by decide +kernel)) rfl (by decide +kernel) rfl : e_Sn 161 112 (o_callV (e_s1 19 225 2) 2 115)) t_225_0 t_161_115
noncomputable def n_161_110 : e_Y := u_ld f_okA f_l7 n_161_112
theorem t_161_110 : e_Sn 161 110 (e_un n_161_110) := u_ldAT f_l7_eq (s_aload (i := .aload 7) (len := 2) hq_161 (by decide +kernel) rfl (.inl ⟨rfl, rfl⟩) : e_Sn 161 110 (o_load e_okR 7 112)) t_161_112
noncomputable def n_161_107 : e_Y := u_getf 14 0 (u_old (o_getf (e_f1 14 0) 110) n_161_110) n_161_110
theorem t_161_107 : e_Sn 161 107 (e_un n_161_107) := u_getfT (s_getf (C := er_14) (T := et_14) (N := 2) (ref := "PlateroomprinterModel$Ring") (index := 92) (ci := 14) (k := 0) hq_161 ho_161 ⟨rfl, by decide, ei_14, (List.mem_of_getElem? (i := 2081) (by decide +kernel)), .inl rfl⟩ (by decide +kernel) rfl : e_Sn 161 107 (o_getf (e_f1 14 0) 110)) t_161_110
noncomputable def n_161_106 : e_Y := u_ld f_okA f_l2 n_161_107
theorem t_161_106 : e_Sn 161 106 (e_un n_161_106) := u_ldAT f_l2_eq (s_aload (i := .aload_n 2) (len := 1) hq_161 (by decide +kernel) rfl (.inr ⟨2, rfl, rfl, rfl⟩) : e_Sn 161 106 (o_load e_okR 2 107)) t_161_107
noncomputable def n_161_104 : e_Y := u_st f_okA f_s7 n_161_106
theorem t_161_104 : e_Sn 161 104 (e_un n_161_104) := u_stAT (fun _ _ _ => f_s7_eq) (s_astore (i := .astore 7) (len := 2) hq_161 (by decide +kernel) rfl (.inl ⟨rfl, rfl⟩) : e_Sn 161 104 (o_store e_okR 7 106)) t_161_106
noncomputable def n_161_103 : e_Y := u_ald 7 (u_old (o_aldO 7 104) n_161_104) n_161_104
theorem t_161_103 : e_Sn 161 103 (e_un n_161_103) := u_aldOT (s_aaldA (tc := 4) rfl hq_161 (by decide +kernel) rfl : e_Sn 161 103 (o_aldO 7 104)) t_161_104
noncomputable def n_161_101 : e_Y := u_ld f_okI f_l6 n_161_103
theorem t_161_101 : e_Sn 161 101 (e_un n_161_101) := u_ldIT f_l6_eq (s_iload (i := .iload 6) (len := 2) hq_161 (by decide +kernel) rfl (.inl ⟨rfl, rfl⟩) : e_Sn 161 101 (o_load e_okI 6 103)) t_161_103
noncomputable def n_161_99 : e_Y := u_ld f_okA f_l4 n_161_101
theorem t_161_99 : e_Sn 161 99 (e_un n_161_99) := u_ldAT f_l4_eq (s_aload (i := .aload 4) (len := 2) hq_161 (by decide +kernel) rfl (.inl ⟨rfl, rfl⟩) : e_Sn 161 99 (o_load e_okR 4 101)) t_161_101
noncomputable def n_161_96 : e_Y := u_jmp y_ge (u_old2 (o_clt 99 122) 99 n_161_99 n_161_122) n_161_99 n_161_122
theorem t_161_96 : e_Sn 161 96 (e_un n_161_96) := u_cltT rfl (s_cge (off := (26)) hq_161 (by decide +kernel) rfl rfl : e_Sn 161 96 (o_clt 99 122)) t_161_99 t_161_122
noncomputable def n_161_94 : e_Y := u_ld f_okI f_l5 n_161_96
theorem t_161_94 : e_Sn 161 94 (e_un n_161_94) := u_ldIT f_l5_eq (s_iload (i := .iload 5) (len := 2) hq_161 (by decide +kernel) rfl (.inl ⟨rfl, rfl⟩) : e_Sn 161 94 (o_load e_okI 5 96)) t_161_96
noncomputable def n_161_92 : e_Y := u_ld f_okI f_l6 n_161_94
theorem t_161_92 : e_Sn 161 92 (e_un n_161_92) := u_ldIT f_l6_eq (s_iload (i := .iload 6) (len := 2) hq_161 (by decide +kernel) rfl (.inl ⟨rfl, rfl⟩) : e_Sn 161 92 (o_load e_okI 6 94)) t_161_94
noncomputable def n_161_90 : e_Y := u_st f_okI f_s6 n_161_92
theorem t_161_90 : e_Sn 161 90 (e_un n_161_90) := u_stIT (fun _ _ _ => f_s6_eq) (s_istore (i := .istore 6) (len := 2) hq_161 (by decide +kernel) rfl (.inl ⟨rfl, rfl⟩) : e_Sn 161 90 (o_store e_okI 6 92)) t_161_92
noncomputable def n_161_89 : e_Y := u_push (.inl 2147483648) n_161_90
theorem t_161_89 : e_Sn 161 89 (e_un n_161_89) := u_pushT (s_iconst (n := (0)) hq_161 (by decide +kernel) rfl ⟨by decide +kernel, by decide +kernel⟩ : e_Sn 161 89 (o_push (.inl 2147483648) 90)) t_161_90
noncomputable def n_161_87 : e_Y := u_st f_okI f_s5 n_161_89
theorem t_161_87 : e_Sn 161 87 (e_un n_161_87) := u_stIT (fun _ _ _ => f_s5_eq) (s_istore (i := .istore 5) (len := 2) hq_161 (by decide +kernel) rfl (.inl ⟨rfl, rfl⟩) : e_Sn 161 87 (o_store e_okI 5 89)) t_161_89
noncomputable def n_161_86 : e_Y := u_old (o_alen e_fcs 87) n_161_87
theorem t_161_86 : e_Sn 161 86 (e_un n_161_86) := u_oldT (s_alen hq_161 (by decide +kernel) rfl : e_Sn 161 86 (o_alen e_fcs 87)) t_161_87 (e_cg_alen e_fcs)
noncomputable def n_161_84 : e_Y := u_ld f_okA f_l4 n_161_86
theorem t_161_84 : e_Sn 161 84 (e_un n_161_84) := u_ldAT f_l4_eq (s_aload (i := .aload 4) (len := 2) hq_161 (by decide +kernel) rfl (.inl ⟨rfl, rfl⟩) : e_Sn 161 84 (o_load e_okR 4 86)) t_161_86
noncomputable def n_161_82 : e_Y := u_st f_okA f_s4 n_161_84
theorem t_161_82 : e_Sn 161 82 (e_un n_161_82) := u_stAT (fun _ _ _ => f_s4_eq) (s_astore (i := .astore 4) (len := 2) hq_161 (by decide +kernel) rfl (.inl ⟨rfl, rfl⟩) : e_Sn 161 82 (o_store e_okR 4 84)) t_161_84
noncomputable def n_161_81 : e_Y := u_tab (o_astRN 7 (fun k => Nat.beq k 100) 82)
theorem t_161_81 : e_Sn 161 81 (e_un n_161_81) := u_tabT (s_aastA (tc := 4) hq_161 rfl rfl (by decide) (List.mem_of_getElem? (i := 2414) (by decide +kernel)) (by decide +kernel) rfl : e_Sn 161 81 (o_astRN 7 (fun k => Nat.beq k 100) 82))
noncomputable def n_161_80 : e_Y := u_old (o_ast 0 e_okI 81) n_161_81
theorem t_161_80 : e_Sn 161 80 (e_un n_161_80) := u_oldT (s_iast hq_161 (by decide +kernel) rfl : e_Sn 161 80 (o_ast 0 e_okI 81)) t_161_81 (e_cg_ast 0 e_okI)
noncomputable def n_161_79 : e_Y := u_ld f_okI f_l3 n_161_80
theorem t_161_79 : e_Sn 161 79 (e_un n_161_79) := u_ldIT f_l3_eq (s_iload (i := .iload_n 3) (len := 1) hq_161 (by decide +kernel) rfl (.inr ⟨3, rfl, rfl, rfl⟩) : e_Sn 161 79 (o_load e_okI 3 80)) t_161_80
noncomputable def n_161_78 : e_Y := u_push (.inl 2147483649) n_161_79
theorem t_161_78 : e_Sn 161 78 (e_un n_161_78) := u_pushT (s_iconst (n := (1)) hq_161 (by decide +kernel) rfl ⟨by decide +kernel, by decide +kernel⟩ : e_Sn 161 78 (o_push (.inl 2147483649) 79)) t_161_79
noncomputable def n_161_77 : e_Y := u_old (o_dup 78) n_161_78
theorem t_161_77 : e_Sn 161 77 (e_un n_161_77) := u_oldT (s_dup hq_161 (by decide +kernel) rfl : e_Sn 161 77 (o_dup 78)) t_161_78 e_cg_dup
noncomputable def n_161_76 : e_Y := u_old (o_ast 0 e_okI 77) n_161_77
theorem t_161_76 : e_Sn 161 76 (e_un n_161_76) := u_oldT (s_iast hq_161 (by decide +kernel) rfl : e_Sn 161 76 (o_ast 0 e_okI 77)) t_161_77 (e_cg_ast 0 e_okI)
noncomputable def n_161_75 : e_Y := u_push (.inl 2147483648) n_161_76
theorem t_161_75 : e_Sn 161 75 (e_un n_161_75) := u_pushT (s_iconst (n := (0)) hq_161 (by decide +kernel) rfl ⟨by decide +kernel, by decide +kernel⟩ : e_Sn 161 75 (o_push (.inl 2147483648) 76)) t_161_76
noncomputable def n_161_74 : e_Y := u_push (.inl 2147483648) n_161_75
theorem t_161_74 : e_Sn 161 74 (e_un n_161_74) := u_pushT (s_iconst (n := (0)) hq_161 (by decide +kernel) rfl ⟨by decide +kernel, by decide +kernel⟩ : e_Sn 161 74 (o_push (.inl 2147483648) 75)) t_161_75
noncomputable def n_161_73 : e_Y := u_old (o_dup 74) n_161_74
theorem t_161_73 : e_Sn 161 73 (e_un n_161_73) := u_oldT (s_dup hq_161 (by decide +kernel) rfl : e_Sn 161 73 (o_dup 74)) t_161_74 e_cg_dup
noncomputable def n_161_71 : e_Y := u_tab (o_newa 0 (e_I 2147483648) 73)
theorem t_161_71 : e_Sn 161 71 (e_un n_161_71) := u_tabT (s_newI (List.mem_of_getElem? (i := 215) (by decide +kernel)) hq_161 (by decide +kernel) rfl : e_Sn 161 71 (o_newa 0 (e_I 2147483648) 73))
noncomputable def n_161_70 : e_Y := u_push (.inl 2147483650) n_161_71
theorem t_161_70 : e_Sn 161 70 (e_un n_161_70) := u_pushT (s_iconst (n := (2)) hq_161 (by decide +kernel) rfl ⟨by decide +kernel, by decide +kernel⟩ : e_Sn 161 70 (o_push (.inl 2147483650) 71)) t_161_71
noncomputable def n_161_69 : e_Y := u_push (.inl 2147483651) n_161_70
theorem t_161_69 : e_Sn 161 69 (e_un n_161_69) := u_pushT (s_iconst (n := (3)) hq_161 (by decide +kernel) rfl ⟨by decide +kernel, by decide +kernel⟩ : e_Sn 161 69 (o_push (.inl 2147483651) 70)) t_161_70
noncomputable def n_161_68 : e_Y := u_old (o_dup 69) n_161_69
theorem t_161_68 : e_Sn 161 68 (e_un n_161_68) := u_oldT (s_dup hq_161 (by decide +kernel) rfl : e_Sn 161 68 (o_dup 69)) t_161_69 e_cg_dup
noncomputable def n_161_67 : e_Y := u_tab (o_astRN 7 (fun k => Nat.beq k 100) 68)
theorem t_161_67 : e_Sn 161 67 (e_un n_161_67) := u_tabT (s_aastA (tc := 4) hq_161 rfl rfl (by decide) (List.mem_of_getElem? (i := 2414) (by decide +kernel)) (by decide +kernel) rfl : e_Sn 161 67 (o_astRN 7 (fun k => Nat.beq k 100) 68))
noncomputable def n_161_66 : e_Y := u_old (o_ast 0 e_okI 67) n_161_67
theorem t_161_66 : e_Sn 161 66 (e_un n_161_66) := u_oldT (s_iast hq_161 (by decide +kernel) rfl : e_Sn 161 66 (o_ast 0 e_okI 67)) t_161_67 (e_cg_ast 0 e_okI)
noncomputable def n_161_65 : e_Y := u_ld f_okI f_l3 n_161_66
theorem t_161_65 : e_Sn 161 65 (e_un n_161_65) := u_ldIT f_l3_eq (s_iload (i := .iload_n 3) (len := 1) hq_161 (by decide +kernel) rfl (.inr ⟨3, rfl, rfl, rfl⟩) : e_Sn 161 65 (o_load e_okI 3 66)) t_161_66
noncomputable def n_161_64 : e_Y := u_push (.inl 2147483649) n_161_65
theorem t_161_64 : e_Sn 161 64 (e_un n_161_64) := u_pushT (s_iconst (n := (1)) hq_161 (by decide +kernel) rfl ⟨by decide +kernel, by decide +kernel⟩ : e_Sn 161 64 (o_push (.inl 2147483649) 65)) t_161_65
noncomputable def n_161_63 : e_Y := u_old (o_dup 64) n_161_64
theorem t_161_63 : e_Sn 161 63 (e_un n_161_63) := u_oldT (s_dup hq_161 (by decide +kernel) rfl : e_Sn 161 63 (o_dup 64)) t_161_64 e_cg_dup
noncomputable def n_161_62 : e_Y := u_old (o_ast 0 e_okI 63) n_161_63
theorem t_161_62 : e_Sn 161 62 (e_un n_161_62) := u_oldT (s_iast hq_161 (by decide +kernel) rfl : e_Sn 161 62 (o_ast 0 e_okI 63)) t_161_63 (e_cg_ast 0 e_okI)
noncomputable def n_161_61 : e_Y := u_ld f_okI f_l3 n_161_62
theorem t_161_61 : e_Sn 161 61 (e_un n_161_61) := u_ldIT f_l3_eq (s_iload (i := .iload_n 3) (len := 1) hq_161 (by decide +kernel) rfl (.inr ⟨3, rfl, rfl, rfl⟩) : e_Sn 161 61 (o_load e_okI 3 62)) t_161_62
noncomputable def n_161_60 : e_Y := u_push (.inl 2147483648) n_161_61
theorem t_161_60 : e_Sn 161 60 (e_un n_161_60) := u_pushT (s_iconst (n := (0)) hq_161 (by decide +kernel) rfl ⟨by decide +kernel, by decide +kernel⟩ : e_Sn 161 60 (o_push (.inl 2147483648) 61)) t_161_61
noncomputable def n_161_59 : e_Y := u_old (o_dup 60) n_161_60
theorem t_161_59 : e_Sn 161 59 (e_un n_161_59) := u_oldT (s_dup hq_161 (by decide +kernel) rfl : e_Sn 161 59 (o_dup 60)) t_161_60 e_cg_dup
noncomputable def n_161_57 : e_Y := u_tab (o_newa 0 (e_I 2147483648) 59)
theorem t_161_57 : e_Sn 161 57 (e_un n_161_57) := u_tabT (s_newI (List.mem_of_getElem? (i := 215) (by decide +kernel)) hq_161 (by decide +kernel) rfl : e_Sn 161 57 (o_newa 0 (e_I 2147483648) 59))
noncomputable def n_161_56 : e_Y := u_push (.inl 2147483650) n_161_57
theorem t_161_56 : e_Sn 161 56 (e_un n_161_56) := u_pushT (s_iconst (n := (2)) hq_161 (by decide +kernel) rfl ⟨by decide +kernel, by decide +kernel⟩ : e_Sn 161 56 (o_push (.inl 2147483650) 57)) t_161_57
noncomputable def n_161_55 : e_Y := u_push (.inl 2147483650) n_161_56
theorem t_161_55 : e_Sn 161 55 (e_un n_161_55) := u_pushT (s_iconst (n := (2)) hq_161 (by decide +kernel) rfl ⟨by decide +kernel, by decide +kernel⟩ : e_Sn 161 55 (o_push (.inl 2147483650) 56)) t_161_56
noncomputable def n_161_54 : e_Y := u_old (o_dup 55) n_161_55
theorem t_161_54 : e_Sn 161 54 (e_un n_161_54) := u_oldT (s_dup hq_161 (by decide +kernel) rfl : e_Sn 161 54 (o_dup 55)) t_161_55 e_cg_dup
noncomputable def n_161_53 : e_Y := u_tab (o_astRN 7 (fun k => Nat.beq k 100) 54)
theorem t_161_53 : e_Sn 161 53 (e_un n_161_53) := u_tabT (s_aastA (tc := 4) hq_161 rfl rfl (by decide) (List.mem_of_getElem? (i := 2414) (by decide +kernel)) (by decide +kernel) rfl : e_Sn 161 53 (o_astRN 7 (fun k => Nat.beq k 100) 54))
noncomputable def n_161_52 : e_Y := u_old (o_ast 0 e_okI 53) n_161_53
theorem t_161_52 : e_Sn 161 52 (e_un n_161_52) := u_oldT (s_iast hq_161 (by decide +kernel) rfl : e_Sn 161 52 (o_ast 0 e_okI 53)) t_161_53 (e_cg_ast 0 e_okI)
noncomputable def n_161_51 : e_Y := u_push (.inl 2147483648) n_161_52
theorem t_161_51 : e_Sn 161 51 (e_un n_161_51) := u_pushT (s_iconst (n := (0)) hq_161 (by decide +kernel) rfl ⟨by decide +kernel, by decide +kernel⟩ : e_Sn 161 51 (o_push (.inl 2147483648) 52)) t_161_52
noncomputable def n_161_50 : e_Y := u_push (.inl 2147483649) n_161_51
theorem t_161_50 : e_Sn 161 50 (e_un n_161_50) := u_pushT (s_iconst (n := (1)) hq_161 (by decide +kernel) rfl ⟨by decide +kernel, by decide +kernel⟩ : e_Sn 161 50 (o_push (.inl 2147483649) 51)) t_161_51
noncomputable def n_161_49 : e_Y := u_old (o_dup 50) n_161_50
theorem t_161_49 : e_Sn 161 49 (e_un n_161_49) := u_oldT (s_dup hq_161 (by decide +kernel) rfl : e_Sn 161 49 (o_dup 50)) t_161_50 e_cg_dup
noncomputable def n_161_48 : e_Y := u_old (o_ast 0 e_okI 49) n_161_49
theorem t_161_48 : e_Sn 161 48 (e_un n_161_48) := u_oldT (s_iast hq_161 (by decide +kernel) rfl : e_Sn 161 48 (o_ast 0 e_okI 49)) t_161_49 (e_cg_ast 0 e_okI)
noncomputable def n_161_47 : e_Y := u_ld f_okI f_l3 n_161_48
theorem t_161_47 : e_Sn 161 47 (e_un n_161_47) := u_ldIT f_l3_eq (s_iload (i := .iload_n 3) (len := 1) hq_161 (by decide +kernel) rfl (.inr ⟨3, rfl, rfl, rfl⟩) : e_Sn 161 47 (o_load e_okI 3 48)) t_161_48
noncomputable def n_161_46 : e_Y := u_push (.inl 2147483648) n_161_47
theorem t_161_46 : e_Sn 161 46 (e_un n_161_46) := u_pushT (s_iconst (n := (0)) hq_161 (by decide +kernel) rfl ⟨by decide +kernel, by decide +kernel⟩ : e_Sn 161 46 (o_push (.inl 2147483648) 47)) t_161_47
noncomputable def n_161_45 : e_Y := u_old (o_dup 46) n_161_46
theorem t_161_45 : e_Sn 161 45 (e_un n_161_45) := u_oldT (s_dup hq_161 (by decide +kernel) rfl : e_Sn 161 45 (o_dup 46)) t_161_46 e_cg_dup
noncomputable def n_161_43 : e_Y := u_tab (o_newa 0 (e_I 2147483648) 45)
theorem t_161_43 : e_Sn 161 43 (e_un n_161_43) := u_tabT (s_newI (List.mem_of_getElem? (i := 215) (by decide +kernel)) hq_161 (by decide +kernel) rfl : e_Sn 161 43 (o_newa 0 (e_I 2147483648) 45))
noncomputable def n_161_42 : e_Y := u_push (.inl 2147483650) n_161_43
theorem t_161_42 : e_Sn 161 42 (e_un n_161_42) := u_pushT (s_iconst (n := (2)) hq_161 (by decide +kernel) rfl ⟨by decide +kernel, by decide +kernel⟩ : e_Sn 161 42 (o_push (.inl 2147483650) 43)) t_161_43
noncomputable def n_161_41 : e_Y := u_push (.inl 2147483649) n_161_42
theorem t_161_41 : e_Sn 161 41 (e_un n_161_41) := u_pushT (s_iconst (n := (1)) hq_161 (by decide +kernel) rfl ⟨by decide +kernel, by decide +kernel⟩ : e_Sn 161 41 (o_push (.inl 2147483649) 42)) t_161_42
noncomputable def n_161_40 : e_Y := u_old (o_dup 41) n_161_41
theorem t_161_40 : e_Sn 161 40 (e_un n_161_40) := u_oldT (s_dup hq_161 (by decide +kernel) rfl : e_Sn 161 40 (o_dup 41)) t_161_41 e_cg_dup
noncomputable def n_161_39 : e_Y := u_tab (o_astRN 7 (fun k => Nat.beq k 100) 40)
theorem t_161_39 : e_Sn 161 39 (e_un n_161_39) := u_tabT (s_aastA (tc := 4) hq_161 rfl rfl (by decide) (List.mem_of_getElem? (i := 2414) (by decide +kernel)) (by decide +kernel) rfl : e_Sn 161 39 (o_astRN 7 (fun k => Nat.beq k 100) 40))
noncomputable def n_161_38 : e_Y := u_old (o_ast 0 e_okI 39) n_161_39
theorem t_161_38 : e_Sn 161 38 (e_un n_161_38) := u_oldT (s_iast hq_161 (by decide +kernel) rfl : e_Sn 161 38 (o_ast 0 e_okI 39)) t_161_39 (e_cg_ast 0 e_okI)
noncomputable def n_161_37 : e_Y := u_push (.inl 2147483648) n_161_38
theorem t_161_37 : e_Sn 161 37 (e_un n_161_37) := u_pushT (s_iconst (n := (0)) hq_161 (by decide +kernel) rfl ⟨by decide +kernel, by decide +kernel⟩ : e_Sn 161 37 (o_push (.inl 2147483648) 38)) t_161_38
noncomputable def n_161_36 : e_Y := u_push (.inl 2147483649) n_161_37
theorem t_161_36 : e_Sn 161 36 (e_un n_161_36) := u_pushT (s_iconst (n := (1)) hq_161 (by decide +kernel) rfl ⟨by decide +kernel, by decide +kernel⟩ : e_Sn 161 36 (o_push (.inl 2147483649) 37)) t_161_37
noncomputable def n_161_35 : e_Y := u_old (o_dup 36) n_161_36
theorem t_161_35 : e_Sn 161 35 (e_un n_161_35) := u_oldT (s_dup hq_161 (by decide +kernel) rfl : e_Sn 161 35 (o_dup 36)) t_161_36 e_cg_dup
noncomputable def n_161_34 : e_Y := u_old (o_ast 0 e_okI 35) n_161_35
theorem t_161_34 : e_Sn 161 34 (e_un n_161_34) := u_oldT (s_iast hq_161 (by decide +kernel) rfl : e_Sn 161 34 (o_ast 0 e_okI 35)) t_161_35 (e_cg_ast 0 e_okI)
noncomputable def n_161_33 : e_Y := u_push (.inl 2147483648) n_161_34
theorem t_161_33 : e_Sn 161 33 (e_un n_161_33) := u_pushT (s_iconst (n := (0)) hq_161 (by decide +kernel) rfl ⟨by decide +kernel, by decide +kernel⟩ : e_Sn 161 33 (o_push (.inl 2147483648) 34)) t_161_34
noncomputable def n_161_32 : e_Y := u_push (.inl 2147483648) n_161_33
theorem t_161_32 : e_Sn 161 32 (e_un n_161_32) := u_pushT (s_iconst (n := (0)) hq_161 (by decide +kernel) rfl ⟨by decide +kernel, by decide +kernel⟩ : e_Sn 161 32 (o_push (.inl 2147483648) 33)) t_161_33
noncomputable def n_161_31 : e_Y := u_old (o_dup 32) n_161_32
theorem t_161_31 : e_Sn 161 31 (e_un n_161_31) := u_oldT (s_dup hq_161 (by decide +kernel) rfl : e_Sn 161 31 (o_dup 32)) t_161_32 e_cg_dup
noncomputable def n_161_29 : e_Y := u_tab (o_newa 0 (e_I 2147483648) 31)
theorem t_161_29 : e_Sn 161 29 (e_un n_161_29) := u_tabT (s_newI (List.mem_of_getElem? (i := 215) (by decide +kernel)) hq_161 (by decide +kernel) rfl : e_Sn 161 29 (o_newa 0 (e_I 2147483648) 31))
noncomputable def n_161_28 : e_Y := u_push (.inl 2147483650) n_161_29
theorem t_161_28 : e_Sn 161 28 (e_un n_161_28) := u_pushT (s_iconst (n := (2)) hq_161 (by decide +kernel) rfl ⟨by decide +kernel, by decide +kernel⟩ : e_Sn 161 28 (o_push (.inl 2147483650) 29)) t_161_29
noncomputable def n_161_27 : e_Y := u_push (.inl 2147483648) n_161_28
theorem t_161_27 : e_Sn 161 27 (e_un n_161_27) := u_pushT (s_iconst (n := (0)) hq_161 (by decide +kernel) rfl ⟨by decide +kernel, by decide +kernel⟩ : e_Sn 161 27 (o_push (.inl 2147483648) 28)) t_161_28
noncomputable def n_161_26 : e_Y := u_old (o_dup 27) n_161_27
theorem t_161_26 : e_Sn 161 26 (e_un n_161_26) := u_oldT (s_dup hq_161 (by decide +kernel) rfl : e_Sn 161 26 (o_dup 27)) t_161_27 e_cg_dup
noncomputable def n_161_23 : e_Y := u_tab (o_newa 7 e_N 26)
theorem t_161_23 : e_Sn 161 23 (e_un n_161_23) := u_tabT (s_newA (tc := 4) (index := 95) (E := .int) rfl ho_161 (List.mem_of_getElem? (i := 2032) (by decide +kernel)) (List.mem_of_getElem? (i := 2414) (by decide +kernel)) hq_161 (by decide +kernel) rfl : e_Sn 161 23 (o_newa 7 e_N 26))
noncomputable def n_161_22 : e_Y := u_push (.inl 2147483652) n_161_23
theorem t_161_22 : e_Sn 161 22 (e_un n_161_22) := u_pushT (s_iconst (n := (4)) hq_161 (by decide +kernel) rfl ⟨by decide +kernel, by decide +kernel⟩ : e_Sn 161 22 (o_push (.inl 2147483652) 23)) t_161_23
noncomputable def n_161_21 : e_Y := u_st f_okI f_s3 n_161_22
theorem t_161_21 : e_Sn 161 21 (e_un n_161_21) := u_stIT (fun _ _ _ => f_s3_eq) (s_istore (i := .istore_n 3) (len := 1) hq_161 (by decide +kernel) rfl (.inr ⟨3, rfl, rfl, rfl⟩) : e_Sn 161 21 (o_store e_okI 3 22)) t_161_22
noncomputable def n_161_18 : e_Y := u_push (.inl 2147484160) n_161_21
theorem t_161_18 : e_Sn 161 18 (e_un n_161_18) := u_pushT (s_sipush (n := (512)) hq_161 (by decide +kernel) rfl ⟨by decide +kernel, by decide +kernel⟩ : e_Sn 161 18 (o_push (.inl 2147484160) 21)) t_161_21
noncomputable def n_161_17 : e_Y := u_st f_okA f_s2 n_161_18
theorem t_161_17 : e_Sn 161 17 (e_un n_161_17) := u_stAT (fun _ _ _ => f_s2_eq) (s_astore (i := .astore_n 2) (len := 1) hq_161 (by decide +kernel) rfl (.inr ⟨2, rfl, rfl, rfl⟩) : e_Sn 161 17 (o_store e_okR 2 18)) t_161_18
noncomputable def n_161_14 : e_Y := u_tab (o_callI 206 1 1 17)
theorem t_161_14 : e_Sn 161 14 (e_un n_161_14) := u_tabT (s_callIN (host := "PlateroomprinterModel") (index := 303) hq_161 ho_161 hy_206 hp_206 hc_206 hi_206 hd_206 (List.mem_of_getElem? (i := 3030) (by decide +kernel)) rfl rfl hs_206 (by decide +kernel) rfl : e_Sn 161 14 (o_callI 206 1 1 17))
noncomputable def n_161_13 : e_Y := u_old (o_dup 14) n_161_14
theorem t_161_13 : e_Sn 161 13 (e_un n_161_13) := u_oldT (s_dup hq_161 (by decide +kernel) rfl : e_Sn 161 13 (o_dup 14)) t_161_14 e_cg_dup
noncomputable def n_161_10 : e_Y := u_tab (o_new 14 2 ef_14 13)
theorem t_161_10 : e_Sn 161 10 (e_un n_161_10) := u_tabT (s_new (index := 82) (ci := 14) (N := 2) (C := er_14) (T := et_14) (ty0 := ey_14) (fv := eg_14) hq_161 ho_161 rfl ei_14 eo_14 (List.mem_of_getElem? (i := 2067) (by decide +kernel)) (List.mem_of_getElem? (i := 2073) (by decide +kernel)) (List.mem_of_getElem? (i := 169) (by decide +kernel)) eh_14 rfl (e_newrel ek_14) (by decide +kernel) rfl : e_Sn 161 10 (o_new 14 2 ef_14 13))
noncomputable def n_161_9 : e_Y := u_st f_okA f_s1 n_161_10
theorem t_161_9 : e_Sn 161 9 (e_un n_161_9) := u_stAT (fun _ _ _ => f_s1_eq) (s_astore (i := .astore_n 1) (len := 1) hq_161 (by decide +kernel) rfl (.inr ⟨1, rfl, rfl, rfl⟩) : e_Sn 161 9 (o_store e_okR 1 10)) t_161_10
noncomputable def n_161_6 : e_Y := u_callS 137 5 24 3 n_137_0 n_161_9
theorem t_161_6 : e_Sn 161 6 (e_un n_161_6) := u_callST rfl (s_callS (index := 299) hq_161 ho_161 hy_137 hp_137 hc_137 hi_137 hd_137 (List.mem_of_getElem? (i := 3021) (by decide +kernel)) hs_137 (by decide +kernel) rfl : e_Sn 161 6 (o_callS 137 5 3 9)) t_137_0 t_161_9
noncomputable def n_161_5 : e_Y := u_push (.inl 2147483648) n_161_6
theorem t_161_5 : e_Sn 161 5 (e_un n_161_5) := u_pushT (s_iconst (n := (0)) hq_161 (by decide +kernel) rfl ⟨by decide +kernel, by decide +kernel⟩ : e_Sn 161 5 (o_push (.inl 2147483648) 6)) t_161_6
noncomputable def n_161_4 : e_Y := u_push (.inl 2147483648) n_161_5
theorem t_161_4 : e_Sn 161 4 (e_un n_161_4) := u_pushT (s_iconst (n := (0)) hq_161 (by decide +kernel) rfl ⟨by decide +kernel, by decide +kernel⟩ : e_Sn 161 4 (o_push (.inl 2147483648) 5)) t_161_5
noncomputable def n_161_1 : e_Y := u_callV 12 184 1 20 1 n_184_0 n_161_4
theorem t_161_1 : e_Sn 161 1 (e_un n_161_1) := u_callVT rfl (s_callV (ci := 12) (C := er_12) (T := et_12) (N := 5) (index := 261) hq_161 ho_161 hy_184 hp_184 hc_184 hi_184 hd_184 (List.mem_of_getElem? (i := 2977) (by decide +kernel)) hs_184 (List.mem_of_getElem? (i := 127) (by decide +kernel)) rfl (by decide +kernel) rfl : e_Sn 161 1 (o_callV (e_s1 12 184 1) 1 4)) t_184_0 t_161_4
noncomputable def n_161_0 : e_Y := u_ld f_okA f_l0 n_161_1
theorem t_161_0 : e_Sn 161 0 (e_un n_161_0) := u_ldAT f_l0_eq (s_aload (i := .aload_n 0) (len := 1) hq_161 (by decide +kernel) rfl (.inr ⟨0, rfl, rfl, rfl⟩) : e_Sn 161 0 (o_load e_okR 0 1)) t_161_1
noncomputable def e_tb_161 : e_X := (e_br 45 (e_br 26 (e_br 13 (e_lf 0 (e_un n_161_0)) (e_br 17 (e_lf 13 (e_un n_161_13)) (e_lf 17 (e_un n_161_17)))) (e_br 31 (e_lf 26 (e_un n_161_26)) (e_br 40 (e_lf 31 (e_un n_161_31)) (e_lf 40 (e_un n_161_40))))) (e_br 68 (e_br 54 (e_lf 45 (e_un n_161_45)) (e_br 59 (e_lf 54 (e_un n_161_54)) (e_lf 59 (e_un n_161_59)))) (e_br 82 (e_br 73 (e_lf 68 (e_un n_161_68)) (e_lf 73 (e_un n_161_73))) (e_br 92 (e_lf 82 (e_un n_161_82)) (e_lf 92 (e_un n_161_92))))))
theorem e_tk_161 : e_Tb 161 e_tb_161 := (e_brT (e_brT (e_brT (e_lfT t_161_0) (e_brT (e_lfT t_161_13) (e_lfT t_161_17))) (e_brT (e_lfT t_161_26) (e_brT (e_lfT t_161_31) (e_lfT t_161_40)))) (e_brT (e_brT (e_lfT t_161_45) (e_brT (e_lfT t_161_54) (e_lfT t_161_59))) (e_brT (e_brT (e_lfT t_161_68) (e_lfT t_161_73)) (e_brT (e_lfT t_161_82) (e_lfT t_161_92)))))
theorem hq_176 : (e_ml[176]?).map (·.2.1) = some prog_14_method_46_code := rfl
theorem ho_176 : (e_ml[176]?).map (·.1.cls) = some "PlateroomprinterModel" := rfl
theorem hr_176 : (e_ml[176]?).map (·.2.2.2) = some (some .int) := rfl
noncomputable def n_176_17 : e_Y := u_retI
theorem t_176_17 : e_Sn 176 17 (e_un n_176_17) := u_retIT (s_iret hq_176 hr_176 (by decide +kernel) : e_Sn 176 17 (o_ret e_okI))
noncomputable def n_176_16 : e_Y := u_old (o_l2i 17) n_176_17
theorem t_176_16 : e_Sn 176 16 (e_un n_176_16) := u_oldT (s_l2i hq_176 (by decide +kernel) rfl : e_Sn 176 16 (o_l2i 17)) t_176_17 e_cg_l2i
noncomputable def n_176_15 : e_Y := u_ald 2 (u_old (o_aldO 2 16) n_176_16) n_176_16
theorem t_176_15 : e_Sn 176 15 (e_un n_176_15) := u_aldOT (s_lald hq_176 (by decide +kernel) rfl : e_Sn 176 15 (o_aldO 2 16)) t_176_16
noncomputable def n_176_14 : e_Y := u_bin a_iadd (u_old (o_iadd 15) n_176_15) n_176_15
theorem t_176_14 : e_Sn 176 14 (e_un n_176_14) := u_iaddT (s_iadd hq_176 (by decide +kernel) rfl : e_Sn 176 14 (o_iadd 15)) t_176_15
noncomputable def n_176_13 : e_Y := u_ld f_okI f_l2 n_176_14
theorem t_176_13 : e_Sn 176 13 (e_un n_176_13) := u_ldIT f_l2_eq (s_iload (i := .iload_n 2) (len := 1) hq_176 (by decide +kernel) rfl (.inr ⟨2, rfl, rfl, rfl⟩) : e_Sn 176 13 (o_load e_okI 2 14)) t_176_14
noncomputable def n_176_12 : e_Y := u_bin a_imul (u_old (o_imul 13) n_176_13) n_176_13
theorem t_176_12 : e_Sn 176 12 (e_un n_176_12) := u_imulT (s_imul hq_176 (by decide +kernel) rfl : e_Sn 176 12 (o_imul 13)) t_176_13
noncomputable def n_176_11 : e_Y := u_ld f_okI f_l1 n_176_12
theorem t_176_11 : e_Sn 176 11 (e_un n_176_11) := u_ldIT f_l1_eq (s_iload (i := .iload_n 1) (len := 1) hq_176 (by decide +kernel) rfl (.inr ⟨1, rfl, rfl, rfl⟩) : e_Sn 176 11 (o_load e_okI 1 12)) t_176_12
noncomputable def n_176_10 : e_Y := u_push (.inl 2147483650) n_176_11
theorem t_176_10 : e_Sn 176 10 (e_un n_176_10) := u_pushT (s_iconst (n := (2)) hq_176 (by decide +kernel) rfl ⟨by decide +kernel, by decide +kernel⟩ : e_Sn 176 10 (o_push (.inl 2147483650) 11)) t_176_11
noncomputable def n_176_7 : e_Y := u_getf 17 0 (u_old (o_getf (e_f1 17 0) 10) n_176_10) n_176_10
theorem t_176_7 : e_Sn 176 7 (e_un n_176_7) := u_getfT (s_getf (C := er_17) (T := et_17) (N := 6) (ref := "PlateroomprinterModel$State") (index := 252) (ci := 17) (k := 0) hq_176 ho_176 ⟨rfl, by decide, ei_17, (List.mem_of_getElem? (i := 1790) (by decide +kernel)), .inl rfl⟩ (by decide +kernel) rfl : e_Sn 176 7 (o_getf (e_f1 17 0) 10)) t_176_10
noncomputable def n_176_4 : e_Y := u_getf 13 2 (u_old (o_getf (e_f1 13 2) 7) n_176_7) n_176_7
theorem t_176_4 : e_Sn 176 4 (e_un n_176_4) := u_getfT (s_getf (C := er_13) (T := et_13) (N := 13) (ref := "PlateroomprinterModel$Machine") (index := 218) (ci := 13) (k := 2) hq_176 ho_176 ⟨rfl, by decide, ei_13, (List.mem_of_getElem? (i := 1898) (by decide +kernel)), .inl rfl⟩ (by decide +kernel) rfl : e_Sn 176 4 (o_getf (e_f1 13 2) 7)) t_176_7
noncomputable def n_176_1 : e_Y := u_getf 12 1 (u_old (o_getf (e_f1 12 1) 4) n_176_4) n_176_4
theorem t_176_1 : e_Sn 176 1 (e_un n_176_1) := u_getfT (s_getf (C := er_12) (T := et_12) (N := 5) (ref := "PlateroomprinterModel") (index := 10) (ci := 12) (k := 1) hq_176 ho_176 ⟨rfl, by decide, ei_12, (List.mem_of_getElem? (i := 1959) (by decide +kernel)), .inl rfl⟩ (by decide +kernel) rfl : e_Sn 176 1 (o_getf (e_f1 12 1) 4)) t_176_4
noncomputable def n_176_0 : e_Y := u_ld f_okA f_l0 n_176_1
theorem t_176_0 : e_Sn 176 0 (e_un n_176_0) := u_ldAT f_l0_eq (s_aload (i := .aload_n 0) (len := 1) hq_176 (by decide +kernel) rfl (.inr ⟨0, rfl, rfl, rfl⟩) : e_Sn 176 0 (o_load e_okR 0 1)) t_176_1
noncomputable def e_tb_176 : e_X := (e_lf 0 (e_un n_176_0))
theorem e_tk_176 : e_Tb 176 e_tb_176 := (e_lfT t_176_0)
theorem hq_186 : (e_ml[186]?).map (·.2.1) = some prog_14_method_14_code := rfl
theorem ho_186 : (e_ml[186]?).map (·.1.cls) = some "PlateroomprinterModel" := rfl
theorem hr_186 : (e_ml[186]?).map (·.2.2.2) = some (some .int) := rfl
noncomputable def n_186_36 : e_Y := u_retI
theorem t_186_36 : e_Sn 186 36 (e_un n_186_36) := u_retIT (s_iret hq_186 hr_186 (by decide +kernel) : e_Sn 186 36 (o_ret e_okI))
noncomputable def n_186_35 : e_Y := u_ld f_okI f_l1 n_186_36
theorem t_186_35 : e_Sn 186 35 (e_un n_186_35) := u_ldIT f_l1_eq (s_iload (i := .iload_n 1) (len := 1) hq_186 (by decide +kernel) rfl (.inr ⟨1, rfl, rfl, rfl⟩) : e_Sn 186 35 (o_load e_okI 1 36)) t_186_36
noncomputable def n_186_9 : e_Y := u_jmp y_ge (u_old2 (o_clt 12 35) 12 (u_at 12) n_186_35) (u_at 12) n_186_35
theorem t_186_9 : e_Sn 186 9 (e_un n_186_9) := u_cltT rfl (s_cge (off := (26)) hq_186 (by decide +kernel) rfl rfl : e_Sn 186 9 (o_clt 12 35)) u_atT t_186_35
noncomputable def n_186_6 : e_Y := u_callV 19 236 1 20 1 n_236_0 n_186_9
theorem t_186_6 : e_Sn 186 6 (e_un n_186_6) := u_callVT rfl (s_callV (ci := 19) (C := er_19) (T := et_19) (N := 3) (index := 74) hq_186 ho_186 hy_236 hp_236 hc_236 hi_236 hd_236 (List.mem_of_getElem? (i := 2000) (by decide +kernel)) hs_236 (List.mem_of_getElem? (i := 2002) (by decide +kernel)) rfl (by decide +kernel) rfl : e_Sn 186 6 (o_callV (e_s1 19 236 1) 1 9)) t_236_0 t_186_9
noncomputable def n_186_5 : e_Y := u_ld f_okA f_l0 n_186_6
theorem t_186_5 : e_Sn 186 5 (e_un n_186_5) := u_ldAT f_l0_eq (s_aload (i := .aload_n 0) (len := 1) hq_186 (by decide +kernel) rfl (.inr ⟨0, rfl, rfl, rfl⟩) : e_Sn 186 5 (o_load e_okR 0 6)) t_186_6
noncomputable def n_186_4 : e_Y := u_ld f_okI f_l2 n_186_5
theorem t_186_4 : e_Sn 186 4 (e_un n_186_4) := u_ldIT f_l2_eq (s_iload (i := .iload_n 2) (len := 1) hq_186 (by decide +kernel) rfl (.inr ⟨2, rfl, rfl, rfl⟩) : e_Sn 186 4 (o_load e_okI 2 5)) t_186_5
noncomputable def n_186_3 : e_Y := u_st f_okI f_s2 n_186_4
theorem t_186_3 : e_Sn 186 3 (e_un n_186_3) := u_stIT (fun _ _ _ => f_s2_eq) (s_istore (i := .istore_n 2) (len := 1) hq_186 (by decide +kernel) rfl (.inr ⟨2, rfl, rfl, rfl⟩) : e_Sn 186 3 (o_store e_okI 2 4)) t_186_4
noncomputable def n_186_2 : e_Y := u_push (.inl 2147483648) n_186_3
theorem t_186_2 : e_Sn 186 2 (e_un n_186_2) := u_pushT (s_iconst (n := (0)) hq_186 (by decide +kernel) rfl ⟨by decide +kernel, by decide +kernel⟩ : e_Sn 186 2 (o_push (.inl 2147483648) 3)) t_186_3
noncomputable def n_186_1 : e_Y := u_st f_okI f_s1 n_186_2
theorem t_186_1 : e_Sn 186 1 (e_un n_186_1) := u_stIT (fun _ _ _ => f_s1_eq) (s_istore (i := .istore_n 1) (len := 1) hq_186 (by decide +kernel) rfl (.inr ⟨1, rfl, rfl, rfl⟩) : e_Sn 186 1 (o_store e_okI 1 2)) t_186_2
noncomputable def n_186_0 : e_Y := u_push (.inl 2147483648) n_186_1
theorem t_186_0 : e_Sn 186 0 (e_un n_186_0) := u_pushT (s_iconst (n := (0)) hq_186 (by decide +kernel) rfl ⟨by decide +kernel, by decide +kernel⟩ : e_Sn 186 0 (o_push (.inl 2147483648) 1)) t_186_1
noncomputable def e_tb_186 : e_X := (e_lf 0 (e_un n_186_0))
theorem e_tk_186 : e_Tb 186 e_tb_186 := (e_lfT t_186_0)
theorem hq_197 : (e_ml[197]?).map (·.2.1) = some prog_14_method_44_code := rfl
theorem ho_197 : (e_ml[197]?).map (·.1.cls) = some "PlateroomprinterModel" := rfl
theorem hr_197 : (e_ml[197]?).map (·.2.2.2) = some (some .int) := rfl
noncomputable def n_197_147 : e_Y := u_retI
theorem t_197_147 : e_Sn 197 147 (e_un n_197_147) := u_retIT (s_iret hq_197 hr_197 (by decide +kernel) : e_Sn 197 147 (o_ret e_okI))
noncomputable def n_197_144 : e_Y := u_callV 19 236 1 20 1 n_236_0 n_197_147
theorem t_197_144 : e_Sn 197 144 (e_un n_197_144) := u_callVT rfl (s_callV (ci := 19) (C := er_19) (T := et_19) (N := 3) (index := 74) hq_197 ho_197 hy_236 hp_236 hc_236 hi_236 hd_236 (List.mem_of_getElem? (i := 2000) (by decide +kernel)) hs_236 (List.mem_of_getElem? (i := 2002) (by decide +kernel)) rfl (by decide +kernel) rfl : e_Sn 197 144 (o_callV (e_s1 19 236 1) 1 147)) t_236_0 t_197_147
noncomputable def n_197_141 : e_Y := u_getf 13 3 (u_old (o_getf (e_f1 13 3) 144) n_197_144) n_197_144
theorem t_197_141 : e_Sn 197 141 (e_un n_197_141) := u_getfT (s_getf (C := er_13) (T := et_13) (N := 13) (ref := "PlateroomprinterModel$Machine") (index := 244) (ci := 13) (k := 3) hq_197 ho_197 ⟨rfl, by decide, ei_13, (List.mem_of_getElem? (i := 1901) (by decide +kernel)), .inl rfl⟩ (by decide +kernel) rfl : e_Sn 197 141 (o_getf (e_f1 13 3) 144)) t_197_144
noncomputable def n_197_138 : e_Y := u_getf 12 1 (u_old (o_getf (e_f1 12 1) 141) n_197_141) n_197_141
theorem t_197_138 : e_Sn 197 138 (e_un n_197_138) := u_getfT (s_getf (C := er_12) (T := et_12) (N := 5) (ref := "PlateroomprinterModel") (index := 10) (ci := 12) (k := 1) hq_197 ho_197 ⟨rfl, by decide, ei_12, (List.mem_of_getElem? (i := 1959) (by decide +kernel)), .inl rfl⟩ (by decide +kernel) rfl : e_Sn 197 138 (o_getf (e_f1 12 1) 141)) t_197_141
noncomputable def n_197_137 : e_Y := u_ld f_okA f_l0 n_197_138
theorem t_197_137 : e_Sn 197 137 (e_un n_197_137) := u_ldAT f_l0_eq (s_aload (i := .aload_n 0) (len := 1) hq_197 (by decide +kernel) rfl (.inr ⟨0, rfl, rfl, rfl⟩) : e_Sn 197 137 (o_load e_okR 0 138)) t_197_138
noncomputable def n_197_136 : e_Y := u_retI
theorem t_197_136 : e_Sn 197 136 (e_un n_197_136) := u_retIT (s_iret hq_197 hr_197 (by decide +kernel) : e_Sn 197 136 (o_ret e_okI))
noncomputable def n_197_133 : e_Y := u_callS 174 6 25 1 n_174_0 n_197_136
theorem t_197_133 : e_Sn 197 133 (e_un n_197_133) := u_callST rfl (s_callS (index := 240) hq_197 ho_197 hy_174 hp_174 hc_174 hi_174 hd_174 (List.mem_of_getElem? (i := 2959) (by decide +kernel)) hs_174 (by decide +kernel) rfl : e_Sn 197 133 (o_callS 174 6 1 136)) t_174_0 t_197_136
noncomputable def n_197_130 : e_Y := u_getf 17 3 (u_old (o_getf (e_f1 17 3) 133) n_197_133) n_197_133
theorem t_197_130 : e_Sn 197 130 (e_un n_197_130) := u_getfT (s_getf (C := er_17) (T := et_17) (N := 6) (ref := "PlateroomprinterModel$State") (index := 237) (ci := 17) (k := 3) hq_197 ho_197 ⟨rfl, by decide, ei_17, (List.mem_of_getElem? (i := 1799) (by decide +kernel)), .inl rfl⟩ (by decide +kernel) rfl : e_Sn 197 130 (o_getf (e_f1 17 3) 133)) t_197_133
noncomputable def n_197_129 : e_Y := u_ld f_okA f_l2 n_197_130
theorem t_197_129 : e_Sn 197 129 (e_un n_197_129) := u_ldAT f_l2_eq (s_aload (i := .aload_n 2) (len := 1) hq_197 (by decide +kernel) rfl (.inr ⟨2, rfl, rfl, rfl⟩) : e_Sn 197 129 (o_load e_okR 2 130)) t_197_130
noncomputable def n_197_128 : e_Y := u_retI
theorem t_197_128 : e_Sn 197 128 (e_un n_197_128) := u_retIT (s_iret hq_197 hr_197 (by decide +kernel) : e_Sn 197 128 (o_ret e_okI))
noncomputable def n_197_125 : e_Y := u_callS 186 3 22 1 n_186_0 n_197_128
theorem t_197_125 : e_Sn 197 125 (e_un n_197_125) := u_callST rfl (s_callS (index := 234) hq_197 ho_197 hy_186 hp_186 hc_186 hi_186 hd_186 (List.mem_of_getElem? (i := 2958) (by decide +kernel)) hs_186 (by decide +kernel) rfl : e_Sn 197 125 (o_callS 186 3 1 128)) t_186_0 t_197_128
noncomputable def n_197_122 : e_Y := u_getf 17 1 (u_old (o_getf (e_f1 17 1) 125) n_197_125) n_197_125
theorem t_197_122 : e_Sn 197 122 (e_un n_197_122) := u_getfT (s_getf (C := er_17) (T := et_17) (N := 6) (ref := "PlateroomprinterModel$State") (index := 231) (ci := 17) (k := 1) hq_197 ho_197 ⟨rfl, by decide, ei_17, (List.mem_of_getElem? (i := 1793) (by decide +kernel)), .inl rfl⟩ (by decide +kernel) rfl : e_Sn 197 122 (o_getf (e_f1 17 1) 125)) t_197_125
noncomputable def n_197_121 : e_Y := u_ld f_okA f_l2 n_197_122
theorem t_197_121 : e_Sn 197 121 (e_un n_197_121) := u_ldAT f_l2_eq (s_aload (i := .aload_n 2) (len := 1) hq_197 (by decide +kernel) rfl (.inr ⟨2, rfl, rfl, rfl⟩) : e_Sn 197 121 (o_load e_okR 2 122)) t_197_122
noncomputable def n_197_120 : e_Y := u_retI
theorem t_197_120 : e_Sn 197 120 (e_un n_197_120) := u_retIT (s_iret hq_197 hr_197 (by decide +kernel) : e_Sn 197 120 (o_ret e_okI))
noncomputable def n_197_117 : e_Y := u_callV 19 236 1 20 1 n_236_0 n_197_120
theorem t_197_117 : e_Sn 197 117 (e_un n_197_117) := u_callVT rfl (s_callV (ci := 19) (C := er_19) (T := et_19) (N := 3) (index := 74) hq_197 ho_197 hy_236 hp_236 hc_236 hi_236 hd_236 (List.mem_of_getElem? (i := 2000) (by decide +kernel)) hs_236 (List.mem_of_getElem? (i := 2002) (by decide +kernel)) rfl (by decide +kernel) rfl : e_Sn 197 117 (o_callV (e_s1 19 236 1) 1 120)) t_236_0 t_197_120
noncomputable def n_197_114 : e_Y := u_getf 17 1 (u_old (o_getf (e_f1 17 1) 117) n_197_117) n_197_117
theorem t_197_114 : e_Sn 197 114 (e_un n_197_114) := u_getfT (s_getf (C := er_17) (T := et_17) (N := 6) (ref := "PlateroomprinterModel$State") (index := 231) (ci := 17) (k := 1) hq_197 ho_197 ⟨rfl, by decide, ei_17, (List.mem_of_getElem? (i := 1793) (by decide +kernel)), .inl rfl⟩ (by decide +kernel) rfl : e_Sn 197 114 (o_getf (e_f1 17 1) 117)) t_197_117
noncomputable def n_197_113 : e_Y := u_ld f_okA f_l2 n_197_114
theorem t_197_113 : e_Sn 197 113 (e_un n_197_113) := u_ldAT f_l2_eq (s_aload (i := .aload_n 2) (len := 1) hq_197 (by decide +kernel) rfl (.inr ⟨2, rfl, rfl, rfl⟩) : e_Sn 197 113 (o_load e_okR 2 114)) t_197_114
noncomputable def n_197_112 : e_Y := u_retI
theorem t_197_112 : e_Sn 197 112 (e_un n_197_112) := u_retIT (s_iret hq_197 hr_197 (by decide +kernel) : e_Sn 197 112 (o_ret e_okI))
noncomputable def n_197_100 : e_Y := n_197_112
theorem t_197_100 : e_Sn 197 100 (e_un n_197_100) := u_gotoT (s_goto (off := (12)) hq_197 (by decide +kernel) rfl : e_Sn 197 100 (o_goto 112)) t_197_112
noncomputable def n_197_99 : e_Y := u_push (.inl 2147483648) n_197_100
theorem t_197_99 : e_Sn 197 99 (e_un n_197_99) := u_pushT (s_iconst (n := (0)) hq_197 (by decide +kernel) rfl ⟨by decide +kernel, by decide +kernel⟩ : e_Sn 197 99 (o_push (.inl 2147483648) 100)) t_197_100
noncomputable def n_197_96 : e_Y := u_tab (o_null 99 103)
theorem t_197_96 : e_Sn 197 96 (e_un n_197_96) := u_tabT (s_ifnonnull (off := (7)) hq_197 (by decide +kernel) rfl rfl : e_Sn 197 96 (o_null 99 103))
noncomputable def n_197_93 : e_Y := u_getf 17 2 (u_old (o_getf (e_f1 17 2) 96) n_197_96) n_197_96
theorem t_197_93 : e_Sn 197 93 (e_un n_197_93) := u_getfT (s_getf (C := er_17) (T := et_17) (N := 6) (ref := "PlateroomprinterModel$State") (index := 228) (ci := 17) (k := 2) hq_197 ho_197 ⟨rfl, by decide, ei_17, (List.mem_of_getElem? (i := 1796) (by decide +kernel)), .inl rfl⟩ (by decide +kernel) rfl : e_Sn 197 93 (o_getf (e_f1 17 2) 96)) t_197_96
noncomputable def n_197_92 : e_Y := u_ld f_okA f_l2 n_197_93
theorem t_197_92 : e_Sn 197 92 (e_un n_197_92) := u_ldAT f_l2_eq (s_aload (i := .aload_n 2) (len := 1) hq_197 (by decide +kernel) rfl (.inr ⟨2, rfl, rfl, rfl⟩) : e_Sn 197 92 (o_load e_okR 2 93)) t_197_93
noncomputable def n_197_91 : e_Y := u_retI
theorem t_197_91 : e_Sn 197 91 (e_un n_197_91) := u_retIT (s_iret hq_197 hr_197 (by decide +kernel) : e_Sn 197 91 (o_ret e_okI))
noncomputable def n_197_88 : e_Y := u_callS 180 1 20 1 n_180_0 n_197_91
theorem t_197_88 : e_Sn 197 88 (e_un n_197_88) := u_callST rfl (s_callS (index := 107) hq_197 ho_197 hy_180 hp_180 hc_180 hi_180 hd_180 (List.mem_of_getElem? (i := 2482) (by decide +kernel)) hs_180 (by decide +kernel) rfl : e_Sn 197 88 (o_callS 180 1 1 91)) t_180_0 t_197_91
noncomputable def n_197_87 : e_Y := u_push (.inl 2147483648) n_197_88
theorem t_197_87 : e_Sn 197 87 (e_un n_197_87) := u_pushT (s_iconst (n := (0)) hq_197 (by decide +kernel) rfl ⟨by decide +kernel, by decide +kernel⟩ : e_Sn 197 87 (o_push (.inl 2147483648) 88)) t_197_88
noncomputable def n_197_80 : e_Y := u_tab (o_null 87 83)
theorem t_197_80 : e_Sn 197 80 (e_un n_197_80) := u_tabT (s_ifnull (off := (7)) hq_197 (by decide +kernel) rfl rfl : e_Sn 197 80 (o_null 87 83))
noncomputable def n_197_77 : e_Y := u_getf 17 2 (u_old (o_getf (e_f1 17 2) 80) n_197_80) n_197_80
theorem t_197_77 : e_Sn 197 77 (e_un n_197_77) := u_getfT (s_getf (C := er_17) (T := et_17) (N := 6) (ref := "PlateroomprinterModel$State") (index := 228) (ci := 17) (k := 2) hq_197 ho_197 ⟨rfl, by decide, ei_17, (List.mem_of_getElem? (i := 1796) (by decide +kernel)), .inl rfl⟩ (by decide +kernel) rfl : e_Sn 197 77 (o_getf (e_f1 17 2) 80)) t_197_80
noncomputable def n_197_76 : e_Y := u_ld f_okA f_l2 n_197_77
theorem t_197_76 : e_Sn 197 76 (e_un n_197_76) := u_ldAT f_l2_eq (s_aload (i := .aload_n 2) (len := 1) hq_197 (by decide +kernel) rfl (.inr ⟨2, rfl, rfl, rfl⟩) : e_Sn 197 76 (o_load e_okR 2 77)) t_197_77
noncomputable def n_197_36 : e_Y := u_tab (o_switch 2147483656 [76, 92, 92, 113, 121, 129] 137)
theorem t_197_36 : e_Sn 197 36 (e_un n_197_36) := u_tabT (s_switch (dflt := (101)) (low := (8)) (hi := (13)) (offs := #[(40), (56), (56), (77), (85), (93)]) (len := 40) hq_197 (by decide +kernel) rfl rfl rfl rfl : e_Sn 197 36 (o_switch 2147483656 [76, 92, 92, 113, 121, 129] 137))
noncomputable def n_197_35 : e_Y := u_ld f_okI f_l1 n_197_36
theorem t_197_35 : e_Sn 197 35 (e_un n_197_35) := u_ldIT f_l1_eq (s_iload (i := .iload_n 1) (len := 1) hq_197 (by decide +kernel) rfl (.inr ⟨1, rfl, rfl, rfl⟩) : e_Sn 197 35 (o_load e_okI 1 36)) t_197_36
noncomputable def n_197_34 : e_Y := u_retI
theorem t_197_34 : e_Sn 197 34 (e_un n_197_34) := u_retIT (s_iret hq_197 hr_197 (by decide +kernel) : e_Sn 197 34 (o_ret e_okI))
noncomputable def n_197_33 : e_Y := u_ald 0 (u_old (o_ald e_fcs 34) n_197_34) n_197_34
theorem t_197_33 : e_Sn 197 33 (e_un n_197_33) := u_aldT (s_iald hq_197 (by decide +kernel) rfl : e_Sn 197 33 (o_ald e_fcs 34)) t_197_34
noncomputable def n_197_32 : e_Y := u_bin a_isub (u_old (o_isub 33) n_197_33) n_197_33
theorem t_197_32 : e_Sn 197 32 (e_un n_197_32) := u_isubT (s_isub hq_197 (by decide +kernel) rfl : e_Sn 197 32 (o_isub 33)) t_197_33
noncomputable def n_197_31 : e_Y := u_push (.inl 2147483652) n_197_32
theorem t_197_31 : e_Sn 197 31 (e_un n_197_31) := u_pushT (s_iconst (n := (4)) hq_197 (by decide +kernel) rfl ⟨by decide +kernel, by decide +kernel⟩ : e_Sn 197 31 (o_push (.inl 2147483652) 32)) t_197_32
noncomputable def n_197_30 : e_Y := u_ld f_okI f_l1 n_197_31
theorem t_197_30 : e_Sn 197 30 (e_un n_197_30) := u_ldIT f_l1_eq (s_iload (i := .iload_n 1) (len := 1) hq_197 (by decide +kernel) rfl (.inr ⟨1, rfl, rfl, rfl⟩) : e_Sn 197 30 (o_load e_okI 1 31)) t_197_31
noncomputable def n_197_27 : e_Y := u_getf 17 4 (u_old (o_getf (e_f1 17 4) 30) n_197_30) n_197_30
theorem t_197_27 : e_Sn 197 27 (e_un n_197_27) := u_getfT (s_getf (C := er_17) (T := et_17) (N := 6) (ref := "PlateroomprinterModel$State") (index := 227) (ci := 17) (k := 4) hq_197 ho_197 ⟨rfl, by decide, ei_17, (List.mem_of_getElem? (i := 1802) (by decide +kernel)), .inl rfl⟩ (by decide +kernel) rfl : e_Sn 197 27 (o_getf (e_f1 17 4) 30)) t_197_30
noncomputable def n_197_26 : e_Y := u_ld f_okA f_l2 n_197_27
theorem t_197_26 : e_Sn 197 26 (e_un n_197_26) := u_ldAT f_l2_eq (s_aload (i := .aload_n 2) (len := 1) hq_197 (by decide +kernel) rfl (.inr ⟨2, rfl, rfl, rfl⟩) : e_Sn 197 26 (o_load e_okR 2 27)) t_197_27
noncomputable def n_197_23 : e_Y := u_jmp y_ge (u_old2 (o_clt 26 35) 26 n_197_26 n_197_35) n_197_26 n_197_35
theorem t_197_23 : e_Sn 197 23 (e_un n_197_23) := u_cltT rfl (s_cge (off := (12)) hq_197 (by decide +kernel) rfl rfl : e_Sn 197 23 (o_clt 26 35)) t_197_26 t_197_35
noncomputable def n_197_21 : e_Y := u_push (.inl 2147483656) n_197_23
theorem t_197_21 : e_Sn 197 21 (e_un n_197_21) := u_pushT (s_bipush (n := (8)) hq_197 (by decide +kernel) rfl ⟨by decide +kernel, by decide +kernel⟩ : e_Sn 197 21 (o_push (.inl 2147483656) 23)) t_197_23
noncomputable def n_197_20 : e_Y := u_ld f_okI f_l1 n_197_21
theorem t_197_20 : e_Sn 197 20 (e_un n_197_20) := u_ldIT f_l1_eq (s_iload (i := .iload_n 1) (len := 1) hq_197 (by decide +kernel) rfl (.inr ⟨1, rfl, rfl, rfl⟩) : e_Sn 197 20 (o_load e_okI 1 21)) t_197_21
noncomputable def n_197_19 : e_Y := u_retI
theorem t_197_19 : e_Sn 197 19 (e_un n_197_19) := u_retIT (s_iret hq_197 hr_197 (by decide +kernel) : e_Sn 197 19 (o_ret e_okI))
noncomputable def n_197_18 : e_Y := u_ald 0 (u_old (o_ald e_fcs 19) n_197_19) n_197_19
theorem t_197_18 : e_Sn 197 18 (e_un n_197_18) := u_aldT (s_iald hq_197 (by decide +kernel) rfl : e_Sn 197 18 (o_ald e_fcs 19)) t_197_19
noncomputable def n_197_17 : e_Y := u_ld f_okI f_l1 n_197_18
theorem t_197_17 : e_Sn 197 17 (e_un n_197_17) := u_ldIT f_l1_eq (s_iload (i := .iload_n 1) (len := 1) hq_197 (by decide +kernel) rfl (.inr ⟨1, rfl, rfl, rfl⟩) : e_Sn 197 17 (o_load e_okI 1 18)) t_197_18
noncomputable def n_197_14 : e_Y := u_getf 17 5 (u_old (o_getf (e_f1 17 5) 17) n_197_17) n_197_17
theorem t_197_14 : e_Sn 197 14 (e_un n_197_14) := u_getfT (s_getf (C := er_17) (T := et_17) (N := 6) (ref := "PlateroomprinterModel$State") (index := 222) (ci := 17) (k := 5) hq_197 ho_197 ⟨rfl, by decide, ei_17, (List.mem_of_getElem? (i := 1805) (by decide +kernel)), .inl rfl⟩ (by decide +kernel) rfl : e_Sn 197 14 (o_getf (e_f1 17 5) 17)) t_197_17
noncomputable def n_197_13 : e_Y := u_ld f_okA f_l2 n_197_14
theorem t_197_13 : e_Sn 197 13 (e_un n_197_13) := u_ldAT f_l2_eq (s_aload (i := .aload_n 2) (len := 1) hq_197 (by decide +kernel) rfl (.inr ⟨2, rfl, rfl, rfl⟩) : e_Sn 197 13 (o_load e_okR 2 14)) t_197_14
noncomputable def n_197_10 : e_Y := u_jmp y_ge (u_old2 (o_clt 13 20) 13 n_197_13 n_197_20) n_197_13 n_197_20
theorem t_197_10 : e_Sn 197 10 (e_un n_197_10) := u_cltT rfl (s_cge (off := (10)) hq_197 (by decide +kernel) rfl rfl : e_Sn 197 10 (o_clt 13 20)) t_197_13 t_197_20
noncomputable def n_197_9 : e_Y := u_push (.inl 2147483652) n_197_10
theorem t_197_9 : e_Sn 197 9 (e_un n_197_9) := u_pushT (s_iconst (n := (4)) hq_197 (by decide +kernel) rfl ⟨by decide +kernel, by decide +kernel⟩ : e_Sn 197 9 (o_push (.inl 2147483652) 10)) t_197_10
noncomputable def n_197_8 : e_Y := u_ld f_okI f_l1 n_197_9
theorem t_197_8 : e_Sn 197 8 (e_un n_197_8) := u_ldIT f_l1_eq (s_iload (i := .iload_n 1) (len := 1) hq_197 (by decide +kernel) rfl (.inr ⟨1, rfl, rfl, rfl⟩) : e_Sn 197 8 (o_load e_okI 1 9)) t_197_9
noncomputable def n_197_7 : e_Y := u_st f_okA f_s2 n_197_8
theorem t_197_7 : e_Sn 197 7 (e_un n_197_7) := u_stAT (fun _ _ _ => f_s2_eq) (s_astore (i := .astore_n 2) (len := 1) hq_197 (by decide +kernel) rfl (.inr ⟨2, rfl, rfl, rfl⟩) : e_Sn 197 7 (o_store e_okR 2 8)) t_197_8
noncomputable def n_197_4 : e_Y := u_getf 13 2 (u_old (o_getf (e_f1 13 2) 7) n_197_7) n_197_7
theorem t_197_4 : e_Sn 197 4 (e_un n_197_4) := u_getfT (s_getf (C := er_13) (T := et_13) (N := 13) (ref := "PlateroomprinterModel$Machine") (index := 218) (ci := 13) (k := 2) hq_197 ho_197 ⟨rfl, by decide, ei_13, (List.mem_of_getElem? (i := 1898) (by decide +kernel)), .inl rfl⟩ (by decide +kernel) rfl : e_Sn 197 4 (o_getf (e_f1 13 2) 7)) t_197_7
noncomputable def n_197_1 : e_Y := u_getf 12 1 (u_old (o_getf (e_f1 12 1) 4) n_197_4) n_197_4
theorem t_197_1 : e_Sn 197 1 (e_un n_197_1) := u_getfT (s_getf (C := er_12) (T := et_12) (N := 5) (ref := "PlateroomprinterModel") (index := 10) (ci := 12) (k := 1) hq_197 ho_197 ⟨rfl, by decide, ei_12, (List.mem_of_getElem? (i := 1959) (by decide +kernel)), .inl rfl⟩ (by decide +kernel) rfl : e_Sn 197 1 (o_getf (e_f1 12 1) 4)) t_197_4
noncomputable def n_197_0 : e_Y := u_ld f_okA f_l0 n_197_1
theorem t_197_0 : e_Sn 197 0 (e_un n_197_0) := u_ldAT f_l0_eq (s_aload (i := .aload_n 0) (len := 1) hq_197 (by decide +kernel) rfl (.inr ⟨0, rfl, rfl, rfl⟩) : e_Sn 197 0 (o_load e_okR 0 1)) t_197_1
noncomputable def e_tb_197 : e_X := (e_br 99 (e_br 87 (e_br 76 (e_lf 0 (e_un n_197_0)) (e_lf 76 (e_un n_197_76))) (e_br 92 (e_lf 87 (e_un n_197_87)) (e_lf 92 (e_un n_197_92)))) (e_br 121 (e_br 113 (e_lf 99 (e_un n_197_99)) (e_lf 113 (e_un n_197_113))) (e_br 129 (e_lf 121 (e_un n_197_121)) (e_br 137 (e_lf 129 (e_un n_197_129)) (e_lf 137 (e_un n_197_137))))))
theorem e_tk_197 : e_Tb 197 e_tb_197 := (e_brT (e_brT (e_brT (e_lfT t_197_0) (e_lfT t_197_76)) (e_brT (e_lfT t_197_87) (e_lfT t_197_92))) (e_brT (e_brT (e_lfT t_197_99) (e_lfT t_197_113)) (e_brT (e_lfT t_197_121) (e_brT (e_lfT t_197_129) (e_lfT t_197_137)))))
theorem hq_134 : (e_ml[134]?).map (·.2.1) = some prog_14_method_84_code := rfl
theorem ho_134 : (e_ml[134]?).map (·.1.cls) = some "PlateroomprinterModel" := rfl
theorem hr_134 : (e_ml[134]?).map (·.2.2.2) = some (some .long) := rfl
noncomputable def n_134_261 : e_Y := u_tab (o_ret e_okL)
theorem t_134_261 : e_Sn 134 261 (e_un n_134_261) := u_tabT (s_lret hq_134 hr_134 (by decide +kernel) : e_Sn 134 261 (o_ret e_okL))
noncomputable def n_134_258 : e_Y := u_callS 133 4 23 2 n_133_0 n_134_261
theorem t_134_258 : e_Sn 134 258 (e_un n_134_258) := u_callST rfl (s_callS (index := 370) hq_134 ho_134 hy_133 hp_133 hc_133 hi_133 hd_133 (List.mem_of_getElem? (i := 3147) (by decide +kernel)) hs_133 (by decide +kernel) rfl : e_Sn 134 258 (o_callS 133 4 2 261)) t_133_0 t_134_261
noncomputable def n_134_257 : e_Y := u_old (o_i2l 258) n_134_258
theorem t_134_257 : e_Sn 134 257 (e_un n_134_257) := u_oldT (s_i2l hq_134 (by decide +kernel) rfl : e_Sn 134 257 (o_i2l 258)) t_134_258 e_congr_i2l
noncomputable def n_134_254 : e_Y := u_callV 12 161 8 27 1 n_161_0 n_134_257
theorem t_134_254 : e_Sn 134 254 (e_un n_134_254) := u_callVT rfl (s_callV (ci := 12) (C := er_12) (T := et_12) (N := 5) (index := 304) hq_134 ho_134 hy_161 hp_161 hc_161 hi_161 hd_161 (List.mem_of_getElem? (i := 3026) (by decide +kernel)) hs_161 (List.mem_of_getElem? (i := 131) (by decide +kernel)) rfl (by decide +kernel) rfl : e_Sn 134 254 (o_callV (e_s1 12 161 8) 1 257)) t_161_0 t_134_257
noncomputable def n_134_253 : e_Y := u_ld f_okA f_l0 n_134_254
theorem t_134_253 : e_Sn 134 253 (e_un n_134_253) := u_ldAT f_l0_eq (s_aload (i := .aload_n 0) (len := 1) hq_134 (by decide +kernel) rfl (.inr ⟨0, rfl, rfl, rfl⟩) : e_Sn 134 253 (o_load e_okR 0 254)) t_134_254
noncomputable def n_134_250 : e_Y := u_callS 133 4 23 2 n_133_0 n_134_253
theorem t_134_250 : e_Sn 134 250 (e_un n_134_250) := u_callST rfl (s_callS (index := 370) hq_134 ho_134 hy_133 hp_133 hc_133 hi_133 hd_133 (List.mem_of_getElem? (i := 3147) (by decide +kernel)) hs_133 (by decide +kernel) rfl : e_Sn 134 250 (o_callS 133 4 2 253)) t_133_0 t_134_253
noncomputable def n_134_249 : e_Y := u_old (o_i2l 250) n_134_250
theorem t_134_249 : e_Sn 134 249 (e_un n_134_249) := u_oldT (s_i2l hq_134 (by decide +kernel) rfl : e_Sn 134 249 (o_i2l 250)) t_134_250 e_congr_i2l
noncomputable def n_134_246 : e_Y := u_callS 174 6 25 1 n_174_0 n_134_249
theorem t_134_246 : e_Sn 134 246 (e_un n_134_246) := u_callST rfl (s_callS (index := 240) hq_134 ho_134 hy_174 hp_174 hc_174 hi_174 hd_174 (List.mem_of_getElem? (i := 2959) (by decide +kernel)) hs_174 (by decide +kernel) rfl : e_Sn 134 246 (o_callS 174 6 1 249)) t_174_0 t_134_249
noncomputable def n_134_243 : e_Y := u_callS 148 4 23 2 n_148_0 n_134_246
theorem t_134_243 : e_Sn 134 243 (e_un n_134_243) := u_callST rfl (s_callS (index := 291) hq_134 ho_134 hy_148 hp_148 hc_148 hi_148 hd_148 (List.mem_of_getElem? (i := 3014) (by decide +kernel)) hs_148 (by decide +kernel) rfl : e_Sn 134 243 (o_callS 148 4 2 246)) t_148_0 t_134_246
noncomputable def n_134_242 : e_Y := u_push (.inl 2147483649) n_134_243
theorem t_134_242 : e_Sn 134 242 (e_un n_134_242) := u_pushT (s_iconst (n := (1)) hq_134 (by decide +kernel) rfl ⟨by decide +kernel, by decide +kernel⟩ : e_Sn 134 242 (o_push (.inl 2147483649) 243)) t_134_243
noncomputable def n_134_239 : e_Y := u_callV 12 184 1 20 1 n_184_0 n_134_242
theorem t_134_239 : e_Sn 134 239 (e_un n_134_239) := u_callVT rfl (s_callV (ci := 12) (C := er_12) (T := et_12) (N := 5) (index := 261) hq_134 ho_134 hy_184 hp_184 hc_184 hi_184 hd_184 (List.mem_of_getElem? (i := 2977) (by decide +kernel)) hs_184 (List.mem_of_getElem? (i := 127) (by decide +kernel)) rfl (by decide +kernel) rfl : e_Sn 134 239 (o_callV (e_s1 12 184 1) 1 242)) t_184_0 t_134_242
noncomputable def n_134_238 : e_Y := u_ld f_okA f_l0 n_134_239
theorem t_134_238 : e_Sn 134 238 (e_un n_134_238) := u_ldAT f_l0_eq (s_aload (i := .aload_n 0) (len := 1) hq_134 (by decide +kernel) rfl (.inr ⟨0, rfl, rfl, rfl⟩) : e_Sn 134 238 (o_load e_okR 0 239)) t_134_239
noncomputable def n_134_235 : e_Y := u_callS 133 4 23 2 n_133_0 n_134_238
theorem t_134_235 : e_Sn 134 235 (e_un n_134_235) := u_callST rfl (s_callS (index := 370) hq_134 ho_134 hy_133 hp_133 hc_133 hi_133 hd_133 (List.mem_of_getElem? (i := 3147) (by decide +kernel)) hs_133 (by decide +kernel) rfl : e_Sn 134 235 (o_callS 133 4 2 238)) t_133_0 t_134_238
noncomputable def n_134_234 : e_Y := u_old (o_i2l 235) n_134_235
theorem t_134_234 : e_Sn 134 234 (e_un n_134_234) := u_oldT (s_i2l hq_134 (by decide +kernel) rfl : e_Sn 134 234 (o_i2l 235)) t_134_235 e_congr_i2l
noncomputable def n_134_231 : e_Y := u_callS 174 6 25 1 n_174_0 n_134_234
theorem t_134_231 : e_Sn 134 231 (e_un n_134_231) := u_callST rfl (s_callS (index := 240) hq_134 ho_134 hy_174 hp_174 hc_174 hi_174 hd_174 (List.mem_of_getElem? (i := 2959) (by decide +kernel)) hs_174 (by decide +kernel) rfl : e_Sn 134 231 (o_callS 174 6 1 234)) t_174_0 t_134_234
noncomputable def n_134_228 : e_Y := u_callS 148 4 23 2 n_148_0 n_134_231
theorem t_134_228 : e_Sn 134 228 (e_un n_134_228) := u_callST rfl (s_callS (index := 291) hq_134 ho_134 hy_148 hp_148 hc_148 hi_148 hd_148 (List.mem_of_getElem? (i := 3014) (by decide +kernel)) hs_148 (by decide +kernel) rfl : e_Sn 134 228 (o_callS 148 4 2 231)) t_148_0 t_134_231
noncomputable def n_134_227 : e_Y := u_push (.inl 2147483648) n_134_228
theorem t_134_227 : e_Sn 134 227 (e_un n_134_227) := u_pushT (s_iconst (n := (0)) hq_134 (by decide +kernel) rfl ⟨by decide +kernel, by decide +kernel⟩ : e_Sn 134 227 (o_push (.inl 2147483648) 228)) t_134_228
noncomputable def n_134_224 : e_Y := u_callV 12 184 1 20 1 n_184_0 n_134_227
theorem t_134_224 : e_Sn 134 224 (e_un n_134_224) := u_callVT rfl (s_callV (ci := 12) (C := er_12) (T := et_12) (N := 5) (index := 261) hq_134 ho_134 hy_184 hp_184 hc_184 hi_184 hd_184 (List.mem_of_getElem? (i := 2977) (by decide +kernel)) hs_184 (List.mem_of_getElem? (i := 127) (by decide +kernel)) rfl (by decide +kernel) rfl : e_Sn 134 224 (o_callV (e_s1 12 184 1) 1 227)) t_184_0 t_134_227
noncomputable def n_134_223 : e_Y := u_ld f_okA f_l0 n_134_224
theorem t_134_223 : e_Sn 134 223 (e_un n_134_223) := u_ldAT f_l0_eq (s_aload (i := .aload_n 0) (len := 1) hq_134 (by decide +kernel) rfl (.inr ⟨0, rfl, rfl, rfl⟩) : e_Sn 134 223 (o_load e_okR 0 224)) t_134_224
noncomputable def n_134_222 : e_Y := u_old (o_load e_okL 3 223) n_134_223
theorem t_134_222 : e_Sn 134 222 (e_un n_134_222) := u_oldT (s_lload (i := .lload_n 3) (len := 1) hq_134 (by decide +kernel) rfl (.inr ⟨3, rfl, rfl, rfl⟩) : e_Sn 134 222 (o_load e_okL 3 223)) t_134_223 e_congr_load
noncomputable def n_134_219 : e_Y := (u_at 181)
theorem t_134_219 : e_Sn 134 219 (e_un n_134_219) := u_gotoT (s_goto (off := (-38)) hq_134 (by decide +kernel) rfl : e_Sn 134 219 (o_goto 181)) u_atT
noncomputable def n_134_216 : e_Y := u_inc f_l5 f_s5 1 n_134_219
theorem t_134_216 : e_Sn 134 216 (e_un n_134_216) := u_incT f_l5_eq (fun _ _ _ => f_s5_eq) (s_iinc (zz := (1)) hq_134 (by decide +kernel) rfl (by decide +kernel) ⟨by decide, by decide⟩ : e_Sn 134 216 (o_iinc 5 1 219)) t_134_219
noncomputable def n_134_213 : e_Y := (u_at 190)
theorem t_134_213 : e_Sn 134 213 (e_un n_134_213) := u_gotoT (s_goto (off := (-23)) hq_134 (by decide +kernel) rfl : e_Sn 134 213 (o_goto 190)) u_atT
noncomputable def n_134_210 : e_Y := u_inc f_l6 f_s6 1 n_134_213
theorem t_134_210 : e_Sn 134 210 (e_un n_134_210) := u_incT f_l6_eq (fun _ _ _ => f_s6_eq) (s_iinc (zz := (1)) hq_134 (by decide +kernel) rfl (by decide +kernel) ⟨by decide, by decide⟩ : e_Sn 134 210 (o_iinc 6 1 213)) t_134_213
noncomputable def n_134_209 : e_Y := u_old (o_storeL 3 210) n_134_210
theorem t_134_209 : e_Sn 134 209 (e_un n_134_209) := u_oldT (s_lstore (i := .lstore_n 3) (len := 1) hq_134 (by decide +kernel) rfl (.inr ⟨3, rfl, rfl, rfl⟩) : e_Sn 134 209 (o_storeL 3 210)) t_134_210 (e_cg_storeL 3)
noncomputable def n_134_206 : e_Y := u_callS 133 4 23 2 n_133_0 n_134_209
theorem t_134_206 : e_Sn 134 206 (e_un n_134_206) := u_callST rfl (s_callS (index := 370) hq_134 ho_134 hy_133 hp_133 hc_133 hi_133 hd_133 (List.mem_of_getElem? (i := 3147) (by decide +kernel)) hs_133 (by decide +kernel) rfl : e_Sn 134 206 (o_callS 133 4 2 209)) t_133_0 t_134_209
noncomputable def n_134_205 : e_Y := u_old (o_i2l 206) n_134_206
theorem t_134_205 : e_Sn 134 205 (e_un n_134_205) := u_oldT (s_i2l hq_134 (by decide +kernel) rfl : e_Sn 134 205 (o_i2l 206)) t_134_206 e_congr_i2l
noncomputable def n_134_202 : e_Y := u_callV 12 155 4 23 3 n_155_0 n_134_205
theorem t_134_202 : e_Sn 134 202 (e_un n_134_202) := u_callVT rfl (s_callV (ci := 12) (C := er_12) (T := et_12) (N := 5) (index := 283) hq_134 ho_134 hy_155 hp_155 hc_155 hi_155 hd_155 (List.mem_of_getElem? (i := 2998) (by decide +kernel)) hs_155 (List.mem_of_getElem? (i := 130) (by decide +kernel)) rfl (by decide +kernel) rfl : e_Sn 134 202 (o_callV (e_s1 12 155 4) 3 205)) t_155_0 t_134_205
noncomputable def n_134_200 : e_Y := u_ld f_okI f_l6 n_134_202
theorem t_134_200 : e_Sn 134 200 (e_un n_134_200) := u_ldIT f_l6_eq (s_iload (i := .iload 6) (len := 2) hq_134 (by decide +kernel) rfl (.inl ⟨rfl, rfl⟩) : e_Sn 134 200 (o_load e_okI 6 202)) t_134_202
noncomputable def n_134_198 : e_Y := u_ld f_okI f_l5 n_134_200
theorem t_134_198 : e_Sn 134 198 (e_un n_134_198) := u_ldIT f_l5_eq (s_iload (i := .iload 5) (len := 2) hq_134 (by decide +kernel) rfl (.inl ⟨rfl, rfl⟩) : e_Sn 134 198 (o_load e_okI 5 200)) t_134_200
noncomputable def n_134_197 : e_Y := u_ld f_okA f_l0 n_134_198
theorem t_134_197 : e_Sn 134 197 (e_un n_134_197) := u_ldAT f_l0_eq (s_aload (i := .aload_n 0) (len := 1) hq_134 (by decide +kernel) rfl (.inr ⟨0, rfl, rfl, rfl⟩) : e_Sn 134 197 (o_load e_okR 0 198)) t_134_198
noncomputable def n_134_196 : e_Y := u_old (o_load e_okL 3 197) n_134_197
theorem t_134_196 : e_Sn 134 196 (e_un n_134_196) := u_oldT (s_lload (i := .lload_n 3) (len := 1) hq_134 (by decide +kernel) rfl (.inr ⟨3, rfl, rfl, rfl⟩) : e_Sn 134 196 (o_load e_okL 3 197)) t_134_197 e_congr_load
noncomputable def n_134_193 : e_Y := u_jmp y_ge (u_old2 (o_clt 196 216) 196 n_134_196 n_134_216) n_134_196 n_134_216
theorem t_134_193 : e_Sn 134 193 (e_un n_134_193) := u_cltT rfl (s_cge (off := (23)) hq_134 (by decide +kernel) rfl rfl : e_Sn 134 193 (o_clt 196 216)) t_134_196 t_134_216
noncomputable def n_134_192 : e_Y := u_push (.inl 2147483651) n_134_193
theorem t_134_192 : e_Sn 134 192 (e_un n_134_192) := u_pushT (s_iconst (n := (3)) hq_134 (by decide +kernel) rfl ⟨by decide +kernel, by decide +kernel⟩ : e_Sn 134 192 (o_push (.inl 2147483651) 193)) t_134_193
noncomputable def n_134_190 : e_Y := u_ld f_okI f_l6 n_134_192
theorem t_134_190 : e_Sn 134 190 (e_un n_134_190) := u_ldIT f_l6_eq (s_iload (i := .iload 6) (len := 2) hq_134 (by decide +kernel) rfl (.inl ⟨rfl, rfl⟩) : e_Sn 134 190 (o_load e_okI 6 192)) t_134_192
noncomputable def n_134_188 : e_Y := u_st f_okI f_s6 n_134_190
theorem t_134_188 : e_Sn 134 188 (e_un n_134_188) := u_stIT (fun _ _ _ => f_s6_eq) (s_istore (i := .istore 6) (len := 2) hq_134 (by decide +kernel) rfl (.inl ⟨rfl, rfl⟩) : e_Sn 134 188 (o_store e_okI 6 190)) t_134_190
noncomputable def n_134_187 : e_Y := u_push (.inl 2147483648) n_134_188
theorem t_134_187 : e_Sn 134 187 (e_un n_134_187) := u_pushT (s_iconst (n := (0)) hq_134 (by decide +kernel) rfl ⟨by decide +kernel, by decide +kernel⟩ : e_Sn 134 187 (o_push (.inl 2147483648) 188)) t_134_188
noncomputable def n_134_184 : e_Y := u_jmp y_ge (u_old2 (o_clt 187 222) 187 n_134_187 n_134_222) n_134_187 n_134_222
theorem t_134_184 : e_Sn 134 184 (e_un n_134_184) := u_cltT rfl (s_cge (off := (38)) hq_134 (by decide +kernel) rfl rfl : e_Sn 134 184 (o_clt 187 222)) t_134_187 t_134_222
noncomputable def n_134_183 : e_Y := u_push (.inl 2147483653) n_134_184
theorem t_134_183 : e_Sn 134 183 (e_un n_134_183) := u_pushT (s_iconst (n := (5)) hq_134 (by decide +kernel) rfl ⟨by decide +kernel, by decide +kernel⟩ : e_Sn 134 183 (o_push (.inl 2147483653) 184)) t_134_184
noncomputable def n_134_181 : e_Y := u_ld f_okI f_l5 n_134_183
theorem t_134_181 : e_Sn 134 181 (e_un n_134_181) := u_ldIT f_l5_eq (s_iload (i := .iload 5) (len := 2) hq_134 (by decide +kernel) rfl (.inl ⟨rfl, rfl⟩) : e_Sn 134 181 (o_load e_okI 5 183)) t_134_183
noncomputable def n_134_179 : e_Y := u_st f_okI f_s5 n_134_181
theorem t_134_179 : e_Sn 134 179 (e_un n_134_179) := u_stIT (fun _ _ _ => f_s5_eq) (s_istore (i := .istore 5) (len := 2) hq_134 (by decide +kernel) rfl (.inl ⟨rfl, rfl⟩) : e_Sn 134 179 (o_store e_okI 5 181)) t_134_181
noncomputable def n_134_178 : e_Y := u_push (.inl 2147483648) n_134_179
theorem t_134_178 : e_Sn 134 178 (e_un n_134_178) := u_pushT (s_iconst (n := (0)) hq_134 (by decide +kernel) rfl ⟨by decide +kernel, by decide +kernel⟩ : e_Sn 134 178 (o_push (.inl 2147483648) 179)) t_134_179
noncomputable def n_134_82 : e_Y := u_jmp y_ge (u_old2 (o_clt 85 178) 85 (u_at 85) n_134_178) (u_at 85) n_134_178
theorem t_134_82 : e_Sn 134 82 (e_un n_134_82) := u_cltT rfl (s_cge (off := (96)) hq_134 (by decide +kernel) rfl rfl : e_Sn 134 82 (o_clt 85 178)) u_atT t_134_178
noncomputable def n_134_79 : e_Y := u_callV 19 236 1 20 1 n_236_0 n_134_82
theorem t_134_79 : e_Sn 134 79 (e_un n_134_79) := u_callVT rfl (s_callV (ci := 19) (C := er_19) (T := et_19) (N := 3) (index := 74) hq_134 ho_134 hy_236 hp_236 hc_236 hi_236 hd_236 (List.mem_of_getElem? (i := 2000) (by decide +kernel)) hs_236 (List.mem_of_getElem? (i := 2002) (by decide +kernel)) rfl (by decide +kernel) rfl : e_Sn 134 79 (o_callV (e_s1 19 236 1) 1 82)) t_236_0 t_134_82
noncomputable def n_134_76 : e_Y := u_callV 12 184 1 20 1 n_184_0 n_134_79
theorem t_134_76 : e_Sn 134 76 (e_un n_134_76) := u_callVT rfl (s_callV (ci := 12) (C := er_12) (T := et_12) (N := 5) (index := 261) hq_134 ho_134 hy_184 hp_184 hc_184 hi_184 hd_184 (List.mem_of_getElem? (i := 2977) (by decide +kernel)) hs_184 (List.mem_of_getElem? (i := 127) (by decide +kernel)) rfl (by decide +kernel) rfl : e_Sn 134 76 (o_callV (e_s1 12 184 1) 1 79)) t_184_0 t_134_79
noncomputable def n_134_75 : e_Y := u_ld f_okA f_l0 n_134_76
theorem t_134_75 : e_Sn 134 75 (e_un n_134_75) := u_ldAT f_l0_eq (s_aload (i := .aload_n 0) (len := 1) hq_134 (by decide +kernel) rfl (.inr ⟨0, rfl, rfl, rfl⟩) : e_Sn 134 75 (o_load e_okR 0 76)) t_134_76
noncomputable def n_134_73 : e_Y := u_ld f_okI f_l5 n_134_75
theorem t_134_73 : e_Sn 134 73 (e_un n_134_73) := u_ldIT f_l5_eq (s_iload (i := .iload 5) (len := 2) hq_134 (by decide +kernel) rfl (.inl ⟨rfl, rfl⟩) : e_Sn 134 73 (o_load e_okI 5 75)) t_134_75
noncomputable def n_134_71 : e_Y := u_st f_okI f_s5 n_134_73
theorem t_134_71 : e_Sn 134 71 (e_un n_134_71) := u_stIT (fun _ _ _ => f_s5_eq) (s_istore (i := .istore 5) (len := 2) hq_134 (by decide +kernel) rfl (.inl ⟨rfl, rfl⟩) : e_Sn 134 71 (o_store e_okI 5 73)) t_134_73
noncomputable def n_134_70 : e_Y := u_push (.inl 2147483648) n_134_71
theorem t_134_70 : e_Sn 134 70 (e_un n_134_70) := u_pushT (s_iconst (n := (0)) hq_134 (by decide +kernel) rfl ⟨by decide +kernel, by decide +kernel⟩ : e_Sn 134 70 (o_push (.inl 2147483648) 71)) t_134_71
noncomputable def n_134_67 : e_Y := (u_at 33)
theorem t_134_67 : e_Sn 134 67 (e_un n_134_67) := u_gotoT (s_goto (off := (-34)) hq_134 (by decide +kernel) rfl : e_Sn 134 67 (o_goto 33)) u_atT
noncomputable def n_134_64 : e_Y := u_inc f_l5 f_s5 1 n_134_67
theorem t_134_64 : e_Sn 134 64 (e_un n_134_64) := u_incT f_l5_eq (fun _ _ _ => f_s5_eq) (s_iinc (zz := (1)) hq_134 (by decide +kernel) rfl (by decide +kernel) ⟨by decide, by decide⟩ : e_Sn 134 64 (o_iinc 5 1 67)) t_134_67
noncomputable def n_134_63 : e_Y := u_old (o_storeL 3 64) n_134_64
theorem t_134_63 : e_Sn 134 63 (e_un n_134_63) := u_oldT (s_lstore (i := .lstore_n 3) (len := 1) hq_134 (by decide +kernel) rfl (.inr ⟨3, rfl, rfl, rfl⟩) : e_Sn 134 63 (o_storeL 3 64)) t_134_64 (e_cg_storeL 3)
noncomputable def n_134_60 : e_Y := u_callS 133 4 23 2 n_133_0 n_134_63
theorem t_134_60 : e_Sn 134 60 (e_un n_134_60) := u_callST rfl (s_callS (index := 370) hq_134 ho_134 hy_133 hp_133 hc_133 hi_133 hd_133 (List.mem_of_getElem? (i := 3147) (by decide +kernel)) hs_133 (by decide +kernel) rfl : e_Sn 134 60 (o_callS 133 4 2 63)) t_133_0 t_134_63
noncomputable def n_134_59 : e_Y := u_old (o_i2l 60) n_134_60
theorem t_134_59 : e_Sn 134 59 (e_un n_134_59) := u_oldT (s_i2l hq_134 (by decide +kernel) rfl : e_Sn 134 59 (o_i2l 60)) t_134_60 e_congr_i2l
noncomputable def n_134_56 : e_Y := u_callV 12 176 3 22 3 n_176_0 n_134_59
theorem t_134_56 : e_Sn 134 56 (e_un n_134_56) := u_callVT rfl (s_callV (ci := 12) (C := er_12) (T := et_12) (N := 5) (index := 258) hq_134 ho_134 hy_176 hp_176 hc_176 hi_176 hd_176 (List.mem_of_getElem? (i := 2965) (by decide +kernel)) hs_176 (List.mem_of_getElem? (i := 125) (by decide +kernel)) rfl (by decide +kernel) rfl : e_Sn 134 56 (o_callV (e_s1 12 176 3) 3 59)) t_176_0 t_134_59
noncomputable def n_134_55 : e_Y := u_push (.inl 2147483649) n_134_56
theorem t_134_55 : e_Sn 134 55 (e_un n_134_55) := u_pushT (s_iconst (n := (1)) hq_134 (by decide +kernel) rfl ⟨by decide +kernel, by decide +kernel⟩ : e_Sn 134 55 (o_push (.inl 2147483649) 56)) t_134_56
noncomputable def n_134_53 : e_Y := u_ld f_okI f_l5 n_134_55
theorem t_134_53 : e_Sn 134 53 (e_un n_134_53) := u_ldIT f_l5_eq (s_iload (i := .iload 5) (len := 2) hq_134 (by decide +kernel) rfl (.inl ⟨rfl, rfl⟩) : e_Sn 134 53 (o_load e_okI 5 55)) t_134_55
noncomputable def n_134_52 : e_Y := u_ld f_okA f_l0 n_134_53
theorem t_134_52 : e_Sn 134 52 (e_un n_134_52) := u_ldAT f_l0_eq (s_aload (i := .aload_n 0) (len := 1) hq_134 (by decide +kernel) rfl (.inr ⟨0, rfl, rfl, rfl⟩) : e_Sn 134 52 (o_load e_okR 0 53)) t_134_53
noncomputable def n_134_49 : e_Y := u_callS 133 4 23 2 n_133_0 n_134_52
theorem t_134_49 : e_Sn 134 49 (e_un n_134_49) := u_callST rfl (s_callS (index := 370) hq_134 ho_134 hy_133 hp_133 hc_133 hi_133 hd_133 (List.mem_of_getElem? (i := 3147) (by decide +kernel)) hs_133 (by decide +kernel) rfl : e_Sn 134 49 (o_callS 133 4 2 52)) t_133_0 t_134_52
noncomputable def n_134_48 : e_Y := u_old (o_i2l 49) n_134_49
theorem t_134_48 : e_Sn 134 48 (e_un n_134_48) := u_oldT (s_i2l hq_134 (by decide +kernel) rfl : e_Sn 134 48 (o_i2l 49)) t_134_49 e_congr_i2l
noncomputable def n_134_45 : e_Y := u_callV 12 176 3 22 3 n_176_0 n_134_48
theorem t_134_45 : e_Sn 134 45 (e_un n_134_45) := u_callVT rfl (s_callV (ci := 12) (C := er_12) (T := et_12) (N := 5) (index := 258) hq_134 ho_134 hy_176 hp_176 hc_176 hi_176 hd_176 (List.mem_of_getElem? (i := 2965) (by decide +kernel)) hs_176 (List.mem_of_getElem? (i := 125) (by decide +kernel)) rfl (by decide +kernel) rfl : e_Sn 134 45 (o_callV (e_s1 12 176 3) 3 48)) t_176_0 t_134_48
noncomputable def n_134_44 : e_Y := u_push (.inl 2147483648) n_134_45
theorem t_134_44 : e_Sn 134 44 (e_un n_134_44) := u_pushT (s_iconst (n := (0)) hq_134 (by decide +kernel) rfl ⟨by decide +kernel, by decide +kernel⟩ : e_Sn 134 44 (o_push (.inl 2147483648) 45)) t_134_45
noncomputable def n_134_42 : e_Y := u_ld f_okI f_l5 n_134_44
theorem t_134_42 : e_Sn 134 42 (e_un n_134_42) := u_ldIT f_l5_eq (s_iload (i := .iload 5) (len := 2) hq_134 (by decide +kernel) rfl (.inl ⟨rfl, rfl⟩) : e_Sn 134 42 (o_load e_okI 5 44)) t_134_44
noncomputable def n_134_41 : e_Y := u_ld f_okA f_l0 n_134_42
theorem t_134_41 : e_Sn 134 41 (e_un n_134_41) := u_ldAT f_l0_eq (s_aload (i := .aload_n 0) (len := 1) hq_134 (by decide +kernel) rfl (.inr ⟨0, rfl, rfl, rfl⟩) : e_Sn 134 41 (o_load e_okR 0 42)) t_134_42
noncomputable def n_134_40 : e_Y := u_old (o_load e_okL 3 41) n_134_41
theorem t_134_40 : e_Sn 134 40 (e_un n_134_40) := u_oldT (s_lload (i := .lload_n 3) (len := 1) hq_134 (by decide +kernel) rfl (.inr ⟨3, rfl, rfl, rfl⟩) : e_Sn 134 40 (o_load e_okL 3 41)) t_134_41 e_congr_load
noncomputable def n_134_37 : e_Y := u_jmp y_ge (u_old2 (o_clt 40 70) 40 n_134_40 n_134_70) n_134_40 n_134_70
theorem t_134_37 : e_Sn 134 37 (e_un n_134_37) := u_cltT rfl (s_cge (off := (33)) hq_134 (by decide +kernel) rfl rfl : e_Sn 134 37 (o_clt 40 70)) t_134_40 t_134_70
noncomputable def n_134_35 : e_Y := u_push (.inl 2147483654) n_134_37
theorem t_134_35 : e_Sn 134 35 (e_un n_134_35) := u_pushT (s_bipush (n := (6)) hq_134 (by decide +kernel) rfl ⟨by decide +kernel, by decide +kernel⟩ : e_Sn 134 35 (o_push (.inl 2147483654) 37)) t_134_37
noncomputable def n_134_33 : e_Y := u_ld f_okI f_l5 n_134_35
theorem t_134_33 : e_Sn 134 33 (e_un n_134_33) := u_ldIT f_l5_eq (s_iload (i := .iload 5) (len := 2) hq_134 (by decide +kernel) rfl (.inl ⟨rfl, rfl⟩) : e_Sn 134 33 (o_load e_okI 5 35)) t_134_35
noncomputable def n_134_31 : e_Y := u_st f_okI f_s5 n_134_33
theorem t_134_31 : e_Sn 134 31 (e_un n_134_31) := u_stIT (fun _ _ _ => f_s5_eq) (s_istore (i := .istore 5) (len := 2) hq_134 (by decide +kernel) rfl (.inl ⟨rfl, rfl⟩) : e_Sn 134 31 (o_store e_okI 5 33)) t_134_33
noncomputable def n_134_30 : e_Y := u_push (.inl 2147483648) n_134_31
theorem t_134_30 : e_Sn 134 30 (e_un n_134_30) := u_pushT (s_iconst (n := (0)) hq_134 (by decide +kernel) rfl ⟨by decide +kernel, by decide +kernel⟩ : e_Sn 134 30 (o_push (.inl 2147483648) 31)) t_134_31
noncomputable def n_134_27 : e_Y := (u_at 5)
theorem t_134_27 : e_Sn 134 27 (e_un n_134_27) := u_gotoT (s_goto (off := (-22)) hq_134 (by decide +kernel) rfl : e_Sn 134 27 (o_goto 5)) u_atT
noncomputable def n_134_24 : e_Y := u_inc f_l5 f_s5 1 n_134_27
theorem t_134_24 : e_Sn 134 24 (e_un n_134_24) := u_incT f_l5_eq (fun _ _ _ => f_s5_eq) (s_iinc (zz := (1)) hq_134 (by decide +kernel) rfl (by decide +kernel) ⟨by decide, by decide⟩ : e_Sn 134 24 (o_iinc 5 1 27)) t_134_27
noncomputable def n_134_23 : e_Y := u_old (o_storeL 3 24) n_134_24
theorem t_134_23 : e_Sn 134 23 (e_un n_134_23) := u_oldT (s_lstore (i := .lstore_n 3) (len := 1) hq_134 (by decide +kernel) rfl (.inr ⟨3, rfl, rfl, rfl⟩) : e_Sn 134 23 (o_storeL 3 24)) t_134_24 (e_cg_storeL 3)
noncomputable def n_134_20 : e_Y := u_callS 133 4 23 2 n_133_0 n_134_23
theorem t_134_20 : e_Sn 134 20 (e_un n_134_20) := u_callST rfl (s_callS (index := 370) hq_134 ho_134 hy_133 hp_133 hc_133 hi_133 hd_133 (List.mem_of_getElem? (i := 3147) (by decide +kernel)) hs_133 (by decide +kernel) rfl : e_Sn 134 20 (o_callS 133 4 2 23)) t_133_0 t_134_23
noncomputable def n_134_19 : e_Y := u_old (o_i2l 20) n_134_20
theorem t_134_19 : e_Sn 134 19 (e_un n_134_19) := u_oldT (s_i2l hq_134 (by decide +kernel) rfl : e_Sn 134 19 (o_i2l 20)) t_134_20 e_congr_i2l
noncomputable def n_134_16 : e_Y := u_callV 12 197 3 22 2 n_197_0 n_134_19
theorem t_134_16 : e_Sn 134 16 (e_un n_134_16) := u_callVT rfl (s_callV (ci := 12) (C := er_12) (T := et_12) (N := 5) (index := 249) hq_134 ho_134 hy_197 hp_197 hc_197 hi_197 hd_197 (List.mem_of_getElem? (i := 2954) (by decide +kernel)) hs_197 (List.mem_of_getElem? (i := 124) (by decide +kernel)) rfl (by decide +kernel) rfl : e_Sn 134 16 (o_callV (e_s1 12 197 3) 2 19)) t_197_0 t_134_19
noncomputable def n_134_14 : e_Y := u_ld f_okI f_l5 n_134_16
theorem t_134_14 : e_Sn 134 14 (e_un n_134_14) := u_ldIT f_l5_eq (s_iload (i := .iload 5) (len := 2) hq_134 (by decide +kernel) rfl (.inl ⟨rfl, rfl⟩) : e_Sn 134 14 (o_load e_okI 5 16)) t_134_16
noncomputable def n_134_13 : e_Y := u_ld f_okA f_l0 n_134_14
theorem t_134_13 : e_Sn 134 13 (e_un n_134_13) := u_ldAT f_l0_eq (s_aload (i := .aload_n 0) (len := 1) hq_134 (by decide +kernel) rfl (.inr ⟨0, rfl, rfl, rfl⟩) : e_Sn 134 13 (o_load e_okR 0 14)) t_134_14
noncomputable def n_134_12 : e_Y := u_old (o_load e_okL 3 13) n_134_13
theorem t_134_12 : e_Sn 134 12 (e_un n_134_12) := u_oldT (s_lload (i := .lload_n 3) (len := 1) hq_134 (by decide +kernel) rfl (.inr ⟨3, rfl, rfl, rfl⟩) : e_Sn 134 12 (o_load e_okL 3 13)) t_134_13 e_congr_load
noncomputable def n_134_9 : e_Y := u_jmp y_ge (u_old2 (o_clt 12 30) 12 n_134_12 n_134_30) n_134_12 n_134_30
theorem t_134_9 : e_Sn 134 9 (e_un n_134_9) := u_cltT rfl (s_cge (off := (21)) hq_134 (by decide +kernel) rfl rfl : e_Sn 134 9 (o_clt 12 30)) t_134_12 t_134_30
noncomputable def n_134_7 : e_Y := u_push (.inl 2147483663) n_134_9
theorem t_134_7 : e_Sn 134 7 (e_un n_134_7) := u_pushT (s_bipush (n := (15)) hq_134 (by decide +kernel) rfl ⟨by decide +kernel, by decide +kernel⟩ : e_Sn 134 7 (o_push (.inl 2147483663) 9)) t_134_9
noncomputable def n_134_5 : e_Y := u_ld f_okI f_l5 n_134_7
theorem t_134_5 : e_Sn 134 5 (e_un n_134_5) := u_ldIT f_l5_eq (s_iload (i := .iload 5) (len := 2) hq_134 (by decide +kernel) rfl (.inl ⟨rfl, rfl⟩) : e_Sn 134 5 (o_load e_okI 5 7)) t_134_7
noncomputable def n_134_3 : e_Y := u_st f_okI f_s5 n_134_5
theorem t_134_3 : e_Sn 134 3 (e_un n_134_3) := u_stIT (fun _ _ _ => f_s5_eq) (s_istore (i := .istore 5) (len := 2) hq_134 (by decide +kernel) rfl (.inl ⟨rfl, rfl⟩) : e_Sn 134 3 (o_store e_okI 5 5)) t_134_5
noncomputable def n_134_2 : e_Y := u_push (.inl 2147483648) n_134_3
theorem t_134_2 : e_Sn 134 2 (e_un n_134_2) := u_pushT (s_iconst (n := (0)) hq_134 (by decide +kernel) rfl ⟨by decide +kernel, by decide +kernel⟩ : e_Sn 134 2 (o_push (.inl 2147483648) 3)) t_134_3
noncomputable def n_134_1 : e_Y := u_old (o_storeL 3 2) n_134_2
theorem t_134_1 : e_Sn 134 1 (e_un n_134_1) := u_oldT (s_lstore (i := .lstore_n 3) (len := 1) hq_134 (by decide +kernel) rfl (.inr ⟨3, rfl, rfl, rfl⟩) : e_Sn 134 1 (o_storeL 3 2)) t_134_2 (e_cg_storeL 3)
noncomputable def n_134_0 : e_Y := u_old (o_load e_okL 1 1) n_134_1
theorem t_134_0 : e_Sn 134 0 (e_un n_134_0) := u_oldT (s_lload (i := .lload_n 1) (len := 1) hq_134 (by decide +kernel) rfl (.inr ⟨1, rfl, rfl, rfl⟩) : e_Sn 134 0 (o_load e_okL 1 1)) t_134_1 e_congr_load
noncomputable def e_tb_134 : e_X := (e_br 33 (e_br 5 (e_lf 0 (e_un n_134_0)) (e_lf 5 (e_un n_134_5))) (e_br 181 (e_lf 33 (e_un n_134_33)) (e_br 190 (e_lf 181 (e_un n_134_181)) (e_lf 190 (e_un n_134_190)))))
theorem e_tk_134 : e_Tb 134 e_tb_134 := (e_brT (e_brT (e_lfT t_134_0) (e_lfT t_134_5)) (e_brT (e_lfT t_134_33) (e_brT (e_lfT t_134_181) (e_lfT t_134_190))))
theorem hq_162 : (e_ml[162]?).map (·.2.1) = some prog_14_method_2_code := rfl
theorem ho_162 : (e_ml[162]?).map (·.1.cls) = some "PlateroomprinterModel" := rfl
theorem hr_162 : (e_ml[162]?).map (·.2.2.2) = some (some .boolean) := rfl
noncomputable def n_162_18 : e_Y := u_tab (o_ret e_okZ)
theorem t_162_18 : e_Sn 162 18 (e_un n_162_18) := u_tabT (s_zret hq_162 hr_162 (by decide +kernel) : e_Sn 162 18 (o_ret e_okZ))
noncomputable def n_162_17 : e_Y := u_push (.inl 2147483648) n_162_18
theorem t_162_17 : e_Sn 162 17 (e_un n_162_17) := u_pushT (s_iconst (n := (0)) hq_162 (by decide +kernel) rfl ⟨by decide +kernel, by decide +kernel⟩ : e_Sn 162 17 (o_push (.inl 2147483648) 18)) t_162_18
noncomputable def n_162_14 : e_Y := n_162_18
theorem t_162_14 : e_Sn 162 14 (e_un n_162_14) := u_gotoT (s_goto (off := (4)) hq_162 (by decide +kernel) rfl : e_Sn 162 14 (o_goto 18)) t_162_18
noncomputable def n_162_13 : e_Y := u_push (.inl 2147483649) n_162_14
theorem t_162_13 : e_Sn 162 13 (e_un n_162_13) := u_pushT (s_iconst (n := (1)) hq_162 (by decide +kernel) rfl ⟨by decide +kernel, by decide +kernel⟩ : e_Sn 162 13 (o_push (.inl 2147483649) 14)) t_162_14
noncomputable def n_162_10 : e_Y := u_if y_le0 (u_old2 (o_ifgt 17 13) 17 n_162_17 n_162_13) n_162_17 n_162_13
theorem t_162_10 : e_Sn 162 10 (e_un n_162_10) := u_ifgtT rfl (s_ifgt (off := (7)) hq_162 (by decide +kernel) rfl rfl : e_Sn 162 10 (o_ifgt 17 13)) t_162_17 t_162_13
noncomputable def n_162_9 : e_Y := u_old (o_lcmp 10) n_162_10
theorem t_162_9 : e_Sn 162 9 (e_un n_162_9) := u_oldT (s_lcmp hq_162 (by decide +kernel) rfl : e_Sn 162 9 (o_lcmp 10)) t_162_10 e_cg_lcmp
noncomputable def n_162_7 : e_Y := u_old (o_load e_okL 4 9) n_162_9
theorem t_162_7 : e_Sn 162 7 (e_un n_162_7) := u_oldT (s_lload (i := .lload 4) (len := 2) hq_162 (by decide +kernel) rfl (.inl ⟨rfl, rfl⟩) : e_Sn 162 7 (o_load e_okL 4 9)) t_162_9 e_congr_load
noncomputable def n_162_6 : e_Y := u_old (o_load e_okL 0 7) n_162_7
theorem t_162_6 : e_Sn 162 6 (e_un n_162_6) := u_oldT (s_lload (i := .lload_n 0) (len := 1) hq_162 (by decide +kernel) rfl (.inr ⟨0, rfl, rfl, rfl⟩) : e_Sn 162 6 (o_load e_okL 0 7)) t_162_7 e_congr_load
noncomputable def n_162_3 : e_Y := u_if y_ge0 (u_old2 (o_iflt 17 6) 17 n_162_17 n_162_6) n_162_17 n_162_6
theorem t_162_3 : e_Sn 162 3 (e_un n_162_3) := u_ifltT rfl (s_iflt (off := (14)) hq_162 (by decide +kernel) rfl rfl : e_Sn 162 3 (o_iflt 17 6)) t_162_17 t_162_6
noncomputable def n_162_2 : e_Y := u_old (o_lcmp 3) n_162_3
theorem t_162_2 : e_Sn 162 2 (e_un n_162_2) := u_oldT (s_lcmp hq_162 (by decide +kernel) rfl : e_Sn 162 2 (o_lcmp 3)) t_162_3 e_cg_lcmp
noncomputable def n_162_1 : e_Y := u_old (o_load e_okL 2 2) n_162_2
theorem t_162_1 : e_Sn 162 1 (e_un n_162_1) := u_oldT (s_lload (i := .lload_n 2) (len := 1) hq_162 (by decide +kernel) rfl (.inr ⟨2, rfl, rfl, rfl⟩) : e_Sn 162 1 (o_load e_okL 2 2)) t_162_2 e_congr_load
noncomputable def n_162_0 : e_Y := u_old (o_load e_okL 0 1) n_162_1
theorem t_162_0 : e_Sn 162 0 (e_un n_162_0) := u_oldT (s_lload (i := .lload_n 0) (len := 1) hq_162 (by decide +kernel) rfl (.inr ⟨0, rfl, rfl, rfl⟩) : e_Sn 162 0 (o_load e_okL 0 1)) t_162_1 e_congr_load
noncomputable def e_tb_162 : e_X := (e_lf 0 (e_un n_162_0))
theorem e_tk_162 : e_Tb 162 e_tb_162 := (e_lfT t_162_0)
theorem hq_187 : (e_ml[187]?).map (·.2.1) = some prog_14_method_23_code := rfl
theorem ho_187 : (e_ml[187]?).map (·.1.cls) = some "PlateroomprinterModel" := rfl
theorem hr_187 : (e_ml[187]?).map (·.2.2.2) = some (some .boolean) := rfl
noncomputable def n_187_28 : e_Y := u_tab (o_ret e_okZ)
theorem t_187_28 : e_Sn 187 28 (e_un n_187_28) := u_tabT (s_zret hq_187 hr_187 (by decide +kernel) : e_Sn 187 28 (o_ret e_okZ))
noncomputable def n_187_27 : e_Y := u_push (.inl 2147483648) n_187_28
theorem t_187_27 : e_Sn 187 27 (e_un n_187_27) := u_pushT (s_iconst (n := (0)) hq_187 (by decide +kernel) rfl ⟨by decide +kernel, by decide +kernel⟩ : e_Sn 187 27 (o_push (.inl 2147483648) 28)) t_187_28
noncomputable def n_187_24 : e_Y := n_187_28
theorem t_187_24 : e_Sn 187 24 (e_un n_187_24) := u_gotoT (s_goto (off := (4)) hq_187 (by decide +kernel) rfl : e_Sn 187 24 (o_goto 28)) t_187_28
noncomputable def n_187_23 : e_Y := u_push (.inl 2147483649) n_187_24
theorem t_187_23 : e_Sn 187 23 (e_un n_187_23) := u_pushT (s_iconst (n := (1)) hq_187 (by decide +kernel) rfl ⟨by decide +kernel, by decide +kernel⟩ : e_Sn 187 23 (o_push (.inl 2147483649) 24)) t_187_24
noncomputable def n_187_20 : e_Y := u_if y_le0 (u_old2 (o_ifgt 23 27) 23 n_187_23 n_187_27) n_187_23 n_187_27
theorem t_187_20 : e_Sn 187 20 (e_un n_187_20) := u_ifgtT rfl (s_ifle (off := (7)) hq_187 (by decide +kernel) rfl rfl : e_Sn 187 20 (o_ifgt 23 27)) t_187_23 t_187_27
noncomputable def n_187_17 : e_Y := u_getf 12 0 (u_old (o_getf (e_f1 12 0) 20) n_187_20) n_187_20
theorem t_187_17 : e_Sn 187 17 (e_un n_187_17) := u_getfT (s_getf (C := er_12) (T := et_12) (N := 5) (ref := "PlateroomprinterModel") (index := 124) (ci := 12) (k := 0) hq_187 ho_187 ⟨rfl, by decide, ei_12, (List.mem_of_getElem? (i := 1958) (by decide +kernel)), .inl rfl⟩ (by decide +kernel) rfl : e_Sn 187 17 (o_getf (e_f1 12 0) 20)) t_187_20
noncomputable def n_187_16 : e_Y := u_ld f_okA f_l0 n_187_17
theorem t_187_16 : e_Sn 187 16 (e_un n_187_16) := u_ldAT f_l0_eq (s_aload (i := .aload_n 0) (len := 1) hq_187 (by decide +kernel) rfl (.inr ⟨0, rfl, rfl, rfl⟩) : e_Sn 187 16 (o_load e_okR 0 17)) t_187_17
noncomputable def n_187_13 : e_Y := u_old (o_putf (e_f1 12 0) e_okI 16) n_187_16
theorem t_187_13 : e_Sn 187 13 (e_un n_187_13) := u_oldT (s_putf (ty0 := ey_12) (ok := e_okI) (C := er_12) (T := et_12) (N := 5) (ref := "PlateroomprinterModel") (index := 124) (ci := 12) (k := 0) hq_187 ho_187 ⟨rfl, by decide, ei_12, (List.mem_of_getElem? (i := 1958) (by decide +kernel)), .inl rfl⟩ eo_12 en_12 e_oksI (.inl rfl) (by decide +kernel) rfl : e_Sn 187 13 (o_putf (e_f1 12 0) e_okI 16)) t_187_16 (e_cg_putf (e_f1 12 0) e_okI)
noncomputable def n_187_12 : e_Y := u_ld f_okI f_l2 n_187_13
theorem t_187_12 : e_Sn 187 12 (e_un n_187_12) := u_ldIT f_l2_eq (s_iload (i := .iload_n 2) (len := 1) hq_187 (by decide +kernel) rfl (.inr ⟨2, rfl, rfl, rfl⟩) : e_Sn 187 12 (o_load e_okI 2 13)) t_187_13
noncomputable def n_187_11 : e_Y := u_ld f_okA f_l0 n_187_12
theorem t_187_11 : e_Sn 187 11 (e_un n_187_11) := u_ldAT f_l0_eq (s_aload (i := .aload_n 0) (len := 1) hq_187 (by decide +kernel) rfl (.inr ⟨0, rfl, rfl, rfl⟩) : e_Sn 187 11 (o_load e_okR 0 12)) t_187_12
noncomputable def n_187_8 : e_Y := u_if y_ne0 (u_old2 (o_ifeq 11 16) 11 n_187_11 n_187_16) n_187_11 n_187_16
theorem t_187_8 : e_Sn 187 8 (e_un n_187_8) := u_ifeqT rfl (s_ifne (off := (8)) hq_187 (by decide +kernel) rfl rfl : e_Sn 187 8 (o_ifeq 11 16)) t_187_11 t_187_16
noncomputable def n_187_5 : e_Y := u_getf 12 0 (u_old (o_getf (e_f1 12 0) 8) n_187_8) n_187_8
theorem t_187_5 : e_Sn 187 5 (e_un n_187_5) := u_getfT (s_getf (C := er_12) (T := et_12) (N := 5) (ref := "PlateroomprinterModel") (index := 124) (ci := 12) (k := 0) hq_187 ho_187 ⟨rfl, by decide, ei_12, (List.mem_of_getElem? (i := 1958) (by decide +kernel)), .inl rfl⟩ (by decide +kernel) rfl : e_Sn 187 5 (o_getf (e_f1 12 0) 8)) t_187_8
noncomputable def n_187_4 : e_Y := u_ld f_okA f_l0 n_187_5
theorem t_187_4 : e_Sn 187 4 (e_un n_187_4) := u_ldAT f_l0_eq (s_aload (i := .aload_n 0) (len := 1) hq_187 (by decide +kernel) rfl (.inr ⟨0, rfl, rfl, rfl⟩) : e_Sn 187 4 (o_load e_okR 0 5)) t_187_5
noncomputable def n_187_1 : e_Y := u_if y_ne0 (u_old2 (o_ifeq 16 4) 16 n_187_16 n_187_4) n_187_16 n_187_4
theorem t_187_1 : e_Sn 187 1 (e_un n_187_1) := u_ifeqT rfl (s_ifeq (off := (15)) hq_187 (by decide +kernel) rfl rfl : e_Sn 187 1 (o_ifeq 16 4)) t_187_16 t_187_4
noncomputable def n_187_0 : e_Y := u_ld f_okI f_l1 n_187_1
theorem t_187_0 : e_Sn 187 0 (e_un n_187_0) := u_ldIT f_l1_eq (s_iload (i := .iload_n 1) (len := 1) hq_187 (by decide +kernel) rfl (.inr ⟨1, rfl, rfl, rfl⟩) : e_Sn 187 0 (o_load e_okI 1 1)) t_187_1
noncomputable def e_tb_187 : e_X := (e_lf 0 (e_un n_187_0))
theorem e_tk_187 : e_Tb 187 e_tb_187 := (e_lfT t_187_0)
theorem hq_195 : (e_ml[195]?).map (·.2.1) = some prog_14_method_24_code := rfl
theorem ho_195 : (e_ml[195]?).map (·.1.cls) = some "PlateroomprinterModel" := rfl
theorem hr_195 : (e_ml[195]?).map (·.2.2.2) = some (some .boolean) := rfl
noncomputable def n_195_11 : e_Y := u_tab (o_ret e_okZ)
theorem t_195_11 : e_Sn 195 11 (e_un n_195_11) := u_tabT (s_zret hq_195 hr_195 (by decide +kernel) : e_Sn 195 11 (o_ret e_okZ))
noncomputable def n_195_8 : e_Y := u_callV 12 187 3 22 3 n_187_0 n_195_11
theorem t_195_8 : e_Sn 195 8 (e_un n_195_8) := u_callVT rfl (s_callV (ci := 12) (C := er_12) (T := et_12) (N := 5) (index := 128) hq_195 ho_195 hy_187 hp_187 hc_187 hi_187 hd_187 (List.mem_of_getElem? (i := 1996) (by decide +kernel)) hs_187 (List.mem_of_getElem? (i := 74) (by decide +kernel)) rfl (by decide +kernel) rfl : e_Sn 195 8 (o_callV (e_s1 12 187 3) 3 11)) t_187_0 t_195_11
noncomputable def n_195_7 : e_Y := u_ld f_okI f_l2 n_195_8
theorem t_195_7 : e_Sn 195 7 (e_un n_195_7) := u_ldIT f_l2_eq (s_iload (i := .iload_n 2) (len := 1) hq_195 (by decide +kernel) rfl (.inr ⟨2, rfl, rfl, rfl⟩) : e_Sn 195 7 (o_load e_okI 2 8)) t_195_8
noncomputable def n_195_6 : e_Y := u_ld f_okI f_l1 n_195_7
theorem t_195_6 : e_Sn 195 6 (e_un n_195_6) := u_ldIT f_l1_eq (s_iload (i := .iload_n 1) (len := 1) hq_195 (by decide +kernel) rfl (.inr ⟨1, rfl, rfl, rfl⟩) : e_Sn 195 6 (o_load e_okI 1 7)) t_195_7
noncomputable def n_195_5 : e_Y := u_ld f_okA f_l0 n_195_6
theorem t_195_5 : e_Sn 195 5 (e_un n_195_5) := u_ldAT f_l0_eq (s_aload (i := .aload_n 0) (len := 1) hq_195 (by decide +kernel) rfl (.inr ⟨0, rfl, rfl, rfl⟩) : e_Sn 195 5 (o_load e_okR 0 6)) t_195_6
noncomputable def n_195_2 : e_Y := u_old (o_putf (e_f1 12 0) e_okI 5) n_195_5
theorem t_195_2 : e_Sn 195 2 (e_un n_195_2) := u_oldT (s_putf (ty0 := ey_12) (ok := e_okI) (C := er_12) (T := et_12) (N := 5) (ref := "PlateroomprinterModel") (index := 124) (ci := 12) (k := 0) hq_195 ho_195 ⟨rfl, by decide, ei_12, (List.mem_of_getElem? (i := 1958) (by decide +kernel)), .inl rfl⟩ eo_12 en_12 e_oksI (.inl rfl) (by decide +kernel) rfl : e_Sn 195 2 (o_putf (e_f1 12 0) e_okI 5)) t_195_5 (e_cg_putf (e_f1 12 0) e_okI)
noncomputable def n_195_1 : e_Y := u_push (.inl 2147483648) n_195_2
theorem t_195_1 : e_Sn 195 1 (e_un n_195_1) := u_pushT (s_iconst (n := (0)) hq_195 (by decide +kernel) rfl ⟨by decide +kernel, by decide +kernel⟩ : e_Sn 195 1 (o_push (.inl 2147483648) 2)) t_195_2
noncomputable def n_195_0 : e_Y := u_ld f_okA f_l0 n_195_1
theorem t_195_0 : e_Sn 195 0 (e_un n_195_0) := u_ldAT f_l0_eq (s_aload (i := .aload_n 0) (len := 1) hq_195 (by decide +kernel) rfl (.inr ⟨0, rfl, rfl, rfl⟩) : e_Sn 195 0 (o_load e_okR 0 1)) t_195_1
noncomputable def e_tb_195 : e_X := (e_lf 0 (e_un n_195_0))
theorem e_tk_195 : e_Tb 195 e_tb_195 := (e_lfT t_195_0)
theorem hq_135 : (e_ml[135]?).map (·.2.1) = some prog_14_method_75_code := rfl
theorem ho_135 : (e_ml[135]?).map (·.1.cls) = some "PlateroomprinterModel" := rfl
theorem hr_135 : (e_ml[135]?).map (·.2.2.2) = some (some .boolean) := rfl
noncomputable def n_135_144 : e_Y := u_tab (o_ret e_okZ)
theorem t_135_144 : e_Sn 135 144 (e_un n_135_144) := u_tabT (s_zret hq_135 hr_135 (by decide +kernel) : e_Sn 135 144 (o_ret e_okZ))
noncomputable def n_135_143 : e_Y := u_ld f_okI f_l3 n_135_144
theorem t_135_143 : e_Sn 135 143 (e_un n_135_143) := u_ldIT f_l3_eq (s_iload (i := .iload_n 3) (len := 1) hq_135 (by decide +kernel) rfl (.inr ⟨3, rfl, rfl, rfl⟩) : e_Sn 135 143 (o_load e_okI 3 144)) t_135_144
noncomputable def n_135_140 : e_Y := (u_at 105)
theorem t_135_140 : e_Sn 135 140 (e_un n_135_140) := u_gotoT (s_goto (off := (-35)) hq_135 (by decide +kernel) rfl : e_Sn 135 140 (o_goto 105)) u_atT
noncomputable def n_135_137 : e_Y := u_inc f_l4 f_s4 1 n_135_140
theorem t_135_137 : e_Sn 135 137 (e_un n_135_137) := u_incT f_l4_eq (fun _ _ _ => f_s4_eq) (s_iinc (zz := (1)) hq_135 (by decide +kernel) rfl (by decide +kernel) ⟨by decide, by decide⟩ : e_Sn 135 137 (o_iinc 4 1 140)) t_135_140
noncomputable def n_135_136 : e_Y := u_st f_okI f_s3 n_135_137
theorem t_135_136 : e_Sn 135 136 (e_un n_135_136) := u_stIT (fun _ _ _ => f_s3_eq) (s_istore (i := .istore_n 3) (len := 1) hq_135 (by decide +kernel) rfl (.inr ⟨3, rfl, rfl, rfl⟩) : e_Sn 135 136 (o_store e_okI 3 137)) t_135_137
noncomputable def n_135_135 : e_Y := u_bin a_iand (u_old (o_bin Nat.land 136) n_135_136) n_135_136
theorem t_135_135 : e_Sn 135 135 (e_un n_135_135) := u_iandT (s_iand hq_135 (by decide +kernel) rfl : e_Sn 135 135 (o_bin Nat.land 136)) t_135_136
noncomputable def n_135_131 : e_Y := n_135_135
theorem t_135_131 : e_Sn 135 131 (e_un n_135_131) := u_gotoT (s_goto (off := (4)) hq_135 (by decide +kernel) rfl : e_Sn 135 131 (o_goto 135)) t_135_135
noncomputable def n_135_130 : e_Y := u_push (.inl 2147483649) n_135_131
theorem t_135_130 : e_Sn 135 130 (e_un n_135_130) := u_pushT (s_iconst (n := (1)) hq_135 (by decide +kernel) rfl ⟨by decide +kernel, by decide +kernel⟩ : e_Sn 135 130 (o_push (.inl 2147483649) 131)) t_135_131
noncomputable def n_135_127 : e_Y := u_jmp y_ne (u_old2 (o_ceq 130 134) 130 n_135_130 (u_at 134)) n_135_130 (u_at 134)
theorem t_135_127 : e_Sn 135 127 (e_un n_135_127) := u_ceqT rfl (s_cne (off := (7)) hq_135 (by decide +kernel) rfl rfl : e_Sn 135 127 (o_ceq 130 134)) t_135_130 u_atT
noncomputable def n_135_126 : e_Y := u_ald 1 (u_old (o_aldO 1 127) n_135_127) n_135_127
theorem t_135_126 : e_Sn 135 126 (e_un n_135_126) := u_aldOT (s_zald hq_135 (by decide +kernel) rfl : e_Sn 135 126 (o_aldO 1 127)) t_135_127
noncomputable def n_135_124 : e_Y := u_ld f_okI f_l4 n_135_126
theorem t_135_124 : e_Sn 135 124 (e_un n_135_124) := u_ldIT f_l4_eq (s_iload (i := .iload 4) (len := 2) hq_135 (by decide +kernel) rfl (.inl ⟨rfl, rfl⟩) : e_Sn 135 124 (o_load e_okI 4 126)) t_135_126
noncomputable def n_135_121 : e_Y := u_getf 13 6 (u_old (o_getf (e_f1 13 6) 124) n_135_124) n_135_124
theorem t_135_121 : e_Sn 135 121 (e_un n_135_121) := u_getfT (s_getf (C := er_13) (T := et_13) (N := 13) (ref := "PlateroomprinterModel$Machine") (index := 324) (ci := 13) (k := 6) hq_135 ho_135 ⟨rfl, by decide, ei_13, (List.mem_of_getElem? (i := 1910) (by decide +kernel)), .inl rfl⟩ (by decide +kernel) rfl : e_Sn 135 121 (o_getf (e_f1 13 6) 124)) t_135_124
noncomputable def n_135_118 : e_Y := u_getf 12 1 (u_old (o_getf (e_f1 12 1) 121) n_135_121) n_135_121
theorem t_135_118 : e_Sn 135 118 (e_un n_135_118) := u_getfT (s_getf (C := er_12) (T := et_12) (N := 5) (ref := "PlateroomprinterModel") (index := 10) (ci := 12) (k := 1) hq_135 ho_135 ⟨rfl, by decide, ei_12, (List.mem_of_getElem? (i := 1959) (by decide +kernel)), .inl rfl⟩ (by decide +kernel) rfl : e_Sn 135 118 (o_getf (e_f1 12 1) 121)) t_135_121
noncomputable def n_135_117 : e_Y := u_ld f_okA f_l0 n_135_118
theorem t_135_117 : e_Sn 135 117 (e_un n_135_117) := u_ldAT f_l0_eq (s_aload (i := .aload_n 0) (len := 1) hq_135 (by decide +kernel) rfl (.inr ⟨0, rfl, rfl, rfl⟩) : e_Sn 135 117 (o_load e_okR 0 118)) t_135_118
noncomputable def n_135_116 : e_Y := u_ald 1 (u_old (o_aldO 1 117) n_135_117) n_135_117
theorem t_135_116 : e_Sn 135 116 (e_un n_135_116) := u_aldOT (s_zald hq_135 (by decide +kernel) rfl : e_Sn 135 116 (o_aldO 1 117)) t_135_117
noncomputable def n_135_114 : e_Y := u_ld f_okI f_l4 n_135_116
theorem t_135_114 : e_Sn 135 114 (e_un n_135_114) := u_ldIT f_l4_eq (s_iload (i := .iload 4) (len := 2) hq_135 (by decide +kernel) rfl (.inl ⟨rfl, rfl⟩) : e_Sn 135 114 (o_load e_okI 4 116)) t_135_116
noncomputable def n_135_113 : e_Y := u_ld f_okA f_l2 n_135_114
theorem t_135_113 : e_Sn 135 113 (e_un n_135_113) := u_ldAT f_l2_eq (s_aload (i := .aload_n 2) (len := 1) hq_135 (by decide +kernel) rfl (.inr ⟨2, rfl, rfl, rfl⟩) : e_Sn 135 113 (o_load e_okR 2 114)) t_135_114
noncomputable def n_135_112 : e_Y := u_ld f_okI f_l3 n_135_113
theorem t_135_112 : e_Sn 135 112 (e_un n_135_112) := u_ldIT f_l3_eq (s_iload (i := .iload_n 3) (len := 1) hq_135 (by decide +kernel) rfl (.inr ⟨3, rfl, rfl, rfl⟩) : e_Sn 135 112 (o_load e_okI 3 113)) t_135_113
noncomputable def n_135_109 : e_Y := u_jmp y_ge (u_old2 (o_clt 112 143) 112 n_135_112 n_135_143) n_135_112 n_135_143
theorem t_135_109 : e_Sn 135 109 (e_un n_135_109) := u_cltT rfl (s_cge (off := (34)) hq_135 (by decide +kernel) rfl rfl : e_Sn 135 109 (o_clt 112 143)) t_135_112 t_135_143
noncomputable def n_135_108 : e_Y := u_old (o_alen e_fcs 109) n_135_109
theorem t_135_108 : e_Sn 135 108 (e_un n_135_108) := u_oldT (s_alen hq_135 (by decide +kernel) rfl : e_Sn 135 108 (o_alen e_fcs 109)) t_135_109 (e_cg_alen e_fcs)
noncomputable def n_135_107 : e_Y := u_ld f_okA f_l2 n_135_108
theorem t_135_107 : e_Sn 135 107 (e_un n_135_107) := u_ldAT f_l2_eq (s_aload (i := .aload_n 2) (len := 1) hq_135 (by decide +kernel) rfl (.inr ⟨2, rfl, rfl, rfl⟩) : e_Sn 135 107 (o_load e_okR 2 108)) t_135_108
noncomputable def n_135_105 : e_Y := u_ld f_okI f_l4 n_135_107
theorem t_135_105 : e_Sn 135 105 (e_un n_135_105) := u_ldIT f_l4_eq (s_iload (i := .iload 4) (len := 2) hq_135 (by decide +kernel) rfl (.inl ⟨rfl, rfl⟩) : e_Sn 135 105 (o_load e_okI 4 107)) t_135_107
noncomputable def n_135_103 : e_Y := u_st f_okI f_s4 n_135_105
theorem t_135_103 : e_Sn 135 103 (e_un n_135_103) := u_stIT (fun _ _ _ => f_s4_eq) (s_istore (i := .istore 4) (len := 2) hq_135 (by decide +kernel) rfl (.inl ⟨rfl, rfl⟩) : e_Sn 135 103 (o_store e_okI 4 105)) t_135_105
noncomputable def n_135_102 : e_Y := u_push (.inl 2147483648) n_135_103
theorem t_135_102 : e_Sn 135 102 (e_un n_135_102) := u_pushT (s_iconst (n := (0)) hq_135 (by decide +kernel) rfl ⟨by decide +kernel, by decide +kernel⟩ : e_Sn 135 102 (o_push (.inl 2147483648) 103)) t_135_103
noncomputable def n_135_101 : e_Y := u_st f_okI f_s3 n_135_102
theorem t_135_101 : e_Sn 135 101 (e_un n_135_101) := u_stIT (fun _ _ _ => f_s3_eq) (s_istore (i := .istore_n 3) (len := 1) hq_135 (by decide +kernel) rfl (.inr ⟨3, rfl, rfl, rfl⟩) : e_Sn 135 101 (o_store e_okI 3 102)) t_135_102
noncomputable def n_135_100 : e_Y := u_push (.inl 2147483649) n_135_101
theorem t_135_100 : e_Sn 135 100 (e_un n_135_100) := u_pushT (s_iconst (n := (1)) hq_135 (by decide +kernel) rfl ⟨by decide +kernel, by decide +kernel⟩ : e_Sn 135 100 (o_push (.inl 2147483649) 101)) t_135_101
noncomputable def n_135_97 : e_Y := (u_at 35)
theorem t_135_97 : e_Sn 135 97 (e_un n_135_97) := u_gotoT (s_goto (off := (-62)) hq_135 (by decide +kernel) rfl : e_Sn 135 97 (o_goto 35)) u_atT
noncomputable def n_135_96 : e_Y := u_st f_okI f_s3 n_135_97
theorem t_135_96 : e_Sn 135 96 (e_un n_135_96) := u_stIT (fun _ _ _ => f_s3_eq) (s_istore (i := .istore_n 3) (len := 1) hq_135 (by decide +kernel) rfl (.inr ⟨3, rfl, rfl, rfl⟩) : e_Sn 135 96 (o_store e_okI 3 97)) t_135_97
noncomputable def n_135_95 : e_Y := u_bin a_iadd (u_old (o_iadd 96) n_135_96) n_135_96
theorem t_135_95 : e_Sn 135 95 (e_un n_135_95) := u_iaddT (s_iadd hq_135 (by decide +kernel) rfl : e_Sn 135 95 (o_iadd 96)) t_135_96
noncomputable def n_135_94 : e_Y := u_ld f_okI f_l1 n_135_95
theorem t_135_94 : e_Sn 135 94 (e_un n_135_94) := u_ldIT f_l1_eq (s_iload (i := .iload_n 1) (len := 1) hq_135 (by decide +kernel) rfl (.inr ⟨1, rfl, rfl, rfl⟩) : e_Sn 135 94 (o_load e_okI 1 95)) t_135_95
noncomputable def n_135_93 : e_Y := u_ld f_okI f_l3 n_135_94
theorem t_135_93 : e_Sn 135 93 (e_un n_135_93) := u_ldIT f_l3_eq (s_iload (i := .iload_n 3) (len := 1) hq_135 (by decide +kernel) rfl (.inr ⟨3, rfl, rfl, rfl⟩) : e_Sn 135 93 (o_load e_okI 3 94)) t_135_94
noncomputable def n_135_56 : e_Y := u_jmp y_ge (u_old2 (o_clt 59 93) 59 (u_at 59) n_135_93) (u_at 59) n_135_93
theorem t_135_56 : e_Sn 135 56 (e_un n_135_56) := u_cltT rfl (s_cge (off := (37)) hq_135 (by decide +kernel) rfl rfl : e_Sn 135 56 (o_clt 59 93)) u_atT t_135_93
noncomputable def n_135_53 : e_Y := u_callV 19 236 1 20 1 n_236_0 n_135_56
theorem t_135_53 : e_Sn 135 53 (e_un n_135_53) := u_callVT rfl (s_callV (ci := 19) (C := er_19) (T := et_19) (N := 3) (index := 74) hq_135 ho_135 hy_236 hp_236 hc_236 hi_236 hd_236 (List.mem_of_getElem? (i := 2000) (by decide +kernel)) hs_236 (List.mem_of_getElem? (i := 2002) (by decide +kernel)) rfl (by decide +kernel) rfl : e_Sn 135 53 (o_callV (e_s1 19 236 1) 1 56)) t_236_0 t_135_56
noncomputable def n_135_50 : e_Y := u_getf 13 5 (u_old (o_getf (e_f1 13 5) 53) n_135_53) n_135_53
theorem t_135_50 : e_Sn 135 50 (e_un n_135_50) := u_getfT (s_getf (C := er_13) (T := et_13) (N := 13) (ref := "PlateroomprinterModel$Machine") (index := 311) (ci := 13) (k := 5) hq_135 ho_135 ⟨rfl, by decide, ei_13, (List.mem_of_getElem? (i := 1907) (by decide +kernel)), .inl rfl⟩ (by decide +kernel) rfl : e_Sn 135 50 (o_getf (e_f1 13 5) 53)) t_135_53
noncomputable def n_135_47 : e_Y := u_getf 12 1 (u_old (o_getf (e_f1 12 1) 50) n_135_50) n_135_50
theorem t_135_47 : e_Sn 135 47 (e_un n_135_47) := u_getfT (s_getf (C := er_12) (T := et_12) (N := 5) (ref := "PlateroomprinterModel") (index := 10) (ci := 12) (k := 1) hq_135 ho_135 ⟨rfl, by decide, ei_12, (List.mem_of_getElem? (i := 1959) (by decide +kernel)), .inl rfl⟩ (by decide +kernel) rfl : e_Sn 135 47 (o_getf (e_f1 12 1) 50)) t_135_50
noncomputable def n_135_46 : e_Y := u_ld f_okA f_l0 n_135_47
theorem t_135_46 : e_Sn 135 46 (e_un n_135_46) := u_ldAT f_l0_eq (s_aload (i := .aload_n 0) (len := 1) hq_135 (by decide +kernel) rfl (.inr ⟨0, rfl, rfl, rfl⟩) : e_Sn 135 46 (o_load e_okR 0 47)) t_135_47
noncomputable def n_135_44 : e_Y := u_ld f_okI f_l4 n_135_46
theorem t_135_44 : e_Sn 135 44 (e_un n_135_44) := u_ldIT f_l4_eq (s_iload (i := .iload 4) (len := 2) hq_135 (by decide +kernel) rfl (.inl ⟨rfl, rfl⟩) : e_Sn 135 44 (o_load e_okI 4 46)) t_135_46
noncomputable def n_135_42 : e_Y := u_st f_okI f_s4 n_135_44
theorem t_135_42 : e_Sn 135 42 (e_un n_135_42) := u_stIT (fun _ _ _ => f_s4_eq) (s_istore (i := .istore 4) (len := 2) hq_135 (by decide +kernel) rfl (.inl ⟨rfl, rfl⟩) : e_Sn 135 42 (o_store e_okI 4 44)) t_135_44
noncomputable def n_135_41 : e_Y := u_push (.inl 2147483648) n_135_42
theorem t_135_41 : e_Sn 135 41 (e_un n_135_41) := u_pushT (s_iconst (n := (0)) hq_135 (by decide +kernel) rfl ⟨by decide +kernel, by decide +kernel⟩ : e_Sn 135 41 (o_push (.inl 2147483648) 42)) t_135_42
noncomputable def n_135_38 : e_Y := u_jmp y_ge (u_old2 (o_clt 41 100) 41 n_135_41 n_135_100) n_135_41 n_135_100
theorem t_135_38 : e_Sn 135 38 (e_un n_135_38) := u_cltT rfl (s_cge (off := (62)) hq_135 (by decide +kernel) rfl rfl : e_Sn 135 38 (o_clt 41 100)) t_135_41 t_135_100
noncomputable def n_135_36 : e_Y := u_push (.inl 2147483680) n_135_38
theorem t_135_36 : e_Sn 135 36 (e_un n_135_36) := u_pushT (s_bipush (n := (32)) hq_135 (by decide +kernel) rfl ⟨by decide +kernel, by decide +kernel⟩ : e_Sn 135 36 (o_push (.inl 2147483680) 38)) t_135_38
noncomputable def n_135_35 : e_Y := u_ld f_okI f_l3 n_135_36
theorem t_135_35 : e_Sn 135 35 (e_un n_135_35) := u_ldIT f_l3_eq (s_iload (i := .iload_n 3) (len := 1) hq_135 (by decide +kernel) rfl (.inr ⟨3, rfl, rfl, rfl⟩) : e_Sn 135 35 (o_load e_okI 3 36)) t_135_36
noncomputable def n_135_34 : e_Y := u_st f_okI f_s3 n_135_35
theorem t_135_34 : e_Sn 135 34 (e_un n_135_34) := u_stIT (fun _ _ _ => f_s3_eq) (s_istore (i := .istore_n 3) (len := 1) hq_135 (by decide +kernel) rfl (.inr ⟨3, rfl, rfl, rfl⟩) : e_Sn 135 34 (o_store e_okI 3 35)) t_135_35
noncomputable def n_135_33 : e_Y := u_push (.inl 2147483648) n_135_34
theorem t_135_33 : e_Sn 135 33 (e_un n_135_33) := u_pushT (s_iconst (n := (0)) hq_135 (by decide +kernel) rfl ⟨by decide +kernel, by decide +kernel⟩ : e_Sn 135 33 (o_push (.inl 2147483648) 34)) t_135_34
noncomputable def n_135_32 : e_Y := u_st f_okA f_s2 n_135_33
theorem t_135_32 : e_Sn 135 32 (e_un n_135_32) := u_stAT (fun _ _ _ => f_s2_eq) (s_astore (i := .astore_n 2) (len := 1) hq_135 (by decide +kernel) rfl (.inr ⟨2, rfl, rfl, rfl⟩) : e_Sn 135 32 (o_store e_okR 2 33)) t_135_33
noncomputable def n_135_30 : e_Y := u_tab (o_newa 1 (e_I 2147483648) 32)
theorem t_135_30 : e_Sn 135 30 (e_un n_135_30) := u_tabT (s_newZ (List.mem_of_getElem? (i := 1819) (by decide +kernel)) hq_135 (by decide +kernel) rfl : e_Sn 135 30 (o_newa 1 (e_I 2147483648) 32))
noncomputable def n_135_27 : e_Y := u_push (.inl 2147487744) n_135_30
theorem t_135_27 : e_Sn 135 27 (e_un n_135_27) := u_pushT (s_sipush (n := (4096)) hq_135 (by decide +kernel) rfl ⟨by decide +kernel, by decide +kernel⟩ : e_Sn 135 27 (o_push (.inl 2147487744) 30)) t_135_30
noncomputable def n_135_26 : e_Y := u_tab (o_ret e_okZ)
theorem t_135_26 : e_Sn 135 26 (e_un n_135_26) := u_tabT (s_zret hq_135 hr_135 (by decide +kernel) : e_Sn 135 26 (o_ret e_okZ))
noncomputable def n_135_25 : e_Y := u_push (.inl 2147483648) n_135_26
theorem t_135_25 : e_Sn 135 25 (e_un n_135_25) := u_pushT (s_iconst (n := (0)) hq_135 (by decide +kernel) rfl ⟨by decide +kernel, by decide +kernel⟩ : e_Sn 135 25 (o_push (.inl 2147483648) 26)) t_135_26
noncomputable def n_135_22 : e_Y := u_if y_ne0 (u_old2 (o_ifeq 27 25) 27 n_135_27 n_135_25) n_135_27 n_135_25
theorem t_135_22 : e_Sn 135 22 (e_un n_135_22) := u_ifeqT rfl (s_ifeq (off := (5)) hq_135 (by decide +kernel) rfl rfl : e_Sn 135 22 (o_ifeq 27 25)) t_135_27 t_135_25
noncomputable def n_135_19 : e_Y := u_callV 12 195 3 22 3 n_195_0 n_135_22
theorem t_135_19 : e_Sn 135 19 (e_un n_135_19) := u_callVT rfl (s_callV (ci := 12) (C := er_12) (T := et_12) (N := 5) (index := 148) hq_135 ho_135 hy_195 hp_195 hc_195 hi_195 hd_195 (List.mem_of_getElem? (i := 1992) (by decide +kernel)) hs_195 (List.mem_of_getElem? (i := 73) (by decide +kernel)) rfl (by decide +kernel) rfl : e_Sn 135 19 (o_callV (e_s1 12 195 3) 3 22)) t_195_0 t_135_22
noncomputable def n_135_18 : e_Y := u_push (.inl 2147483649) n_135_19
theorem t_135_18 : e_Sn 135 18 (e_un n_135_18) := u_pushT (s_iconst (n := (1)) hq_135 (by decide +kernel) rfl ⟨by decide +kernel, by decide +kernel⟩ : e_Sn 135 18 (o_push (.inl 2147483649) 19)) t_135_19
noncomputable def n_135_17 : e_Y := u_push (.inl 2147483648) n_135_18
theorem t_135_17 : e_Sn 135 17 (e_un n_135_17) := u_pushT (s_iconst (n := (0)) hq_135 (by decide +kernel) rfl ⟨by decide +kernel, by decide +kernel⟩ : e_Sn 135 17 (o_push (.inl 2147483648) 18)) t_135_18
noncomputable def n_135_14 : e_Y := n_135_18
theorem t_135_14 : e_Sn 135 14 (e_un n_135_14) := u_gotoT (s_goto (off := (4)) hq_135 (by decide +kernel) rfl : e_Sn 135 14 (o_goto 18)) t_135_18
noncomputable def n_135_13 : e_Y := u_push (.inl 2147483649) n_135_14
theorem t_135_13 : e_Sn 135 13 (e_un n_135_13) := u_pushT (s_iconst (n := (1)) hq_135 (by decide +kernel) rfl ⟨by decide +kernel, by decide +kernel⟩ : e_Sn 135 13 (o_push (.inl 2147483649) 14)) t_135_14
noncomputable def n_135_10 : e_Y := u_if y_ne0 (u_old2 (o_ifeq 13 17) 13 n_135_13 n_135_17) n_135_13 n_135_17
theorem t_135_10 : e_Sn 135 10 (e_un n_135_10) := u_ifeqT rfl (s_ifne (off := (7)) hq_135 (by decide +kernel) rfl rfl : e_Sn 135 10 (o_ifeq 13 17)) t_135_13 t_135_17
noncomputable def n_135_7 : e_Y := u_callS 162 6 25 3 n_162_0 n_135_10
theorem t_135_7 : e_Sn 135 7 (e_un n_135_7) := u_callST rfl (s_callS (index := 136) hq_135 ho_135 hy_162 hp_162 hc_162 hi_162 hd_162 (List.mem_of_getElem? (i := 1987) (by decide +kernel)) hs_162 (by decide +kernel) rfl : e_Sn 135 7 (o_callS 162 6 3 10)) t_162_0 t_135_10
noncomputable def n_135_4 : e_Y := u_push (e_L 9223372036854775840) n_135_7
theorem t_135_4 : e_Sn 135 4 (e_un n_135_4) := u_pushT (s_ldc2 (index := 342) (v := (32)) hq_135 ho_135 (List.mem_of_getElem? (i := 3086) (by decide +kernel)) (by decide +kernel) rfl ⟨by decide +kernel, by decide +kernel⟩ : e_Sn 135 4 (o_push (e_L 9223372036854775840) 7)) t_135_7
noncomputable def n_135_3 : e_Y := u_push (e_L 9223372036854775809) n_135_4
theorem t_135_3 : e_Sn 135 3 (e_un n_135_3) := u_pushT (s_lconst (n := 1) hq_135 (by decide +kernel) rfl ⟨by decide +kernel, by decide +kernel⟩ : e_Sn 135 3 (o_push (e_L 9223372036854775809) 4)) t_135_4
noncomputable def n_135_2 : e_Y := u_old (o_i2l 3) n_135_3
theorem t_135_2 : e_Sn 135 2 (e_un n_135_2) := u_oldT (s_i2l hq_135 (by decide +kernel) rfl : e_Sn 135 2 (o_i2l 3)) t_135_3 e_congr_i2l
noncomputable def n_135_1 : e_Y := u_ld f_okI f_l1 n_135_2
theorem t_135_1 : e_Sn 135 1 (e_un n_135_1) := u_ldIT f_l1_eq (s_iload (i := .iload_n 1) (len := 1) hq_135 (by decide +kernel) rfl (.inr ⟨1, rfl, rfl, rfl⟩) : e_Sn 135 1 (o_load e_okI 1 2)) t_135_2
noncomputable def n_135_0 : e_Y := u_ld f_okA f_l0 n_135_1
theorem t_135_0 : e_Sn 135 0 (e_un n_135_0) := u_ldAT f_l0_eq (s_aload (i := .aload_n 0) (len := 1) hq_135 (by decide +kernel) rfl (.inr ⟨0, rfl, rfl, rfl⟩) : e_Sn 135 0 (o_load e_okR 0 1)) t_135_1
noncomputable def e_tb_135 : e_X := (e_br 35 (e_br 32 (e_lf 0 (e_un n_135_0)) (e_lf 32 (e_un n_135_32))) (e_br 105 (e_lf 35 (e_un n_135_35)) (e_lf 105 (e_un n_135_105))))
theorem e_tk_135 : e_Tb 135 e_tb_135 := (e_brT (e_brT (e_lfT t_135_0) (e_lfT t_135_32)) (e_brT (e_lfT t_135_35) (e_lfT t_135_105)))
theorem hq_136 : (e_ml[136]?).map (·.2.1) = some prog_14_method_68_code := rfl
theorem ho_136 : (e_ml[136]?).map (·.1.cls) = some "PlateroomprinterModel" := rfl
theorem hr_136 : (e_ml[136]?).map (·.2.2.2) = some (some .int) := rfl
noncomputable def n_136_35 : e_Y := u_retI
theorem t_136_35 : e_Sn 136 35 (e_un n_136_35) := u_retIT (s_iret hq_136 hr_136 (by decide +kernel) : e_Sn 136 35 (o_ret e_okI))
noncomputable def n_136_34 : e_Y := u_ld f_okI f_l2 n_136_35
theorem t_136_34 : e_Sn 136 34 (e_un n_136_34) := u_ldIT f_l2_eq (s_iload (i := .iload_n 2) (len := 1) hq_136 (by decide +kernel) rfl (.inr ⟨2, rfl, rfl, rfl⟩) : e_Sn 136 34 (o_load e_okI 2 35)) t_136_35
noncomputable def n_136_31 : e_Y := (u_at 4)
theorem t_136_31 : e_Sn 136 31 (e_un n_136_31) := u_gotoT (s_goto (off := (-27)) hq_136 (by decide +kernel) rfl : e_Sn 136 31 (o_goto 4)) u_atT
noncomputable def n_136_28 : e_Y := u_inc f_l3 f_s3 1 n_136_31
theorem t_136_28 : e_Sn 136 28 (e_un n_136_28) := u_incT f_l3_eq (fun _ _ _ => f_s3_eq) (s_iinc (zz := (1)) hq_136 (by decide +kernel) rfl (by decide +kernel) ⟨by decide, by decide⟩ : e_Sn 136 28 (o_iinc 3 1 31)) t_136_31
noncomputable def n_136_27 : e_Y := u_st f_okI f_s2 n_136_28
theorem t_136_27 : e_Sn 136 27 (e_un n_136_27) := u_stIT (fun _ _ _ => f_s2_eq) (s_istore (i := .istore_n 2) (len := 1) hq_136 (by decide +kernel) rfl (.inr ⟨2, rfl, rfl, rfl⟩) : e_Sn 136 27 (o_store e_okI 2 28)) t_136_28
noncomputable def n_136_26 : e_Y := u_bin a_iadd (u_old (o_iadd 27) n_136_27) n_136_27
theorem t_136_26 : e_Sn 136 26 (e_un n_136_26) := u_iaddT (s_iadd hq_136 (by decide +kernel) rfl : e_Sn 136 26 (o_iadd 27)) t_136_27
noncomputable def n_136_25 : e_Y := u_bin a_ishl (u_old (o_ishl 26) n_136_26) n_136_26
theorem t_136_25 : e_Sn 136 25 (e_un n_136_25) := u_ishlT (s_ishl hq_136 (by decide +kernel) rfl : e_Sn 136 25 (o_ishl 26)) t_136_26
noncomputable def n_136_24 : e_Y := u_ld f_okI f_l3 n_136_25
theorem t_136_24 : e_Sn 136 24 (e_un n_136_24) := u_ldIT f_l3_eq (s_iload (i := .iload_n 3) (len := 1) hq_136 (by decide +kernel) rfl (.inr ⟨3, rfl, rfl, rfl⟩) : e_Sn 136 24 (o_load e_okI 3 25)) t_136_25
noncomputable def n_136_21 : e_Y := u_callS 180 1 20 1 n_180_0 n_136_24
theorem t_136_21 : e_Sn 136 21 (e_un n_136_21) := u_callST rfl (s_callS (index := 107) hq_136 ho_136 hy_180 hp_180 hc_180 hi_180 hd_180 (List.mem_of_getElem? (i := 2482) (by decide +kernel)) hs_180 (by decide +kernel) rfl : e_Sn 136 21 (o_callS 180 1 1 24)) t_180_0 t_136_24
noncomputable def n_136_20 : e_Y := u_ald 1 (u_old (o_aldO 1 21) n_136_21) n_136_21
theorem t_136_20 : e_Sn 136 20 (e_un n_136_20) := u_aldOT (s_zald hq_136 (by decide +kernel) rfl : e_Sn 136 20 (o_aldO 1 21)) t_136_21
noncomputable def n_136_19 : e_Y := u_bin a_iadd (u_old (o_iadd 20) n_136_20) n_136_20
theorem t_136_19 : e_Sn 136 19 (e_un n_136_19) := u_iaddT (s_iadd hq_136 (by decide +kernel) rfl : e_Sn 136 19 (o_iadd 20)) t_136_20
noncomputable def n_136_18 : e_Y := u_ld f_okI f_l1 n_136_19
theorem t_136_18 : e_Sn 136 18 (e_un n_136_18) := u_ldIT f_l1_eq (s_iload (i := .iload_n 1) (len := 1) hq_136 (by decide +kernel) rfl (.inr ⟨1, rfl, rfl, rfl⟩) : e_Sn 136 18 (o_load e_okI 1 19)) t_136_19
noncomputable def n_136_17 : e_Y := u_bin a_imul (u_old (o_imul 18) n_136_18) n_136_18
theorem t_136_17 : e_Sn 136 17 (e_un n_136_17) := u_imulT (s_imul hq_136 (by decide +kernel) rfl : e_Sn 136 17 (o_imul 18)) t_136_18
noncomputable def n_136_15 : e_Y := u_push (.inl 2147483680) n_136_17
theorem t_136_15 : e_Sn 136 15 (e_un n_136_15) := u_pushT (s_bipush (n := (32)) hq_136 (by decide +kernel) rfl ⟨by decide +kernel, by decide +kernel⟩ : e_Sn 136 15 (o_push (.inl 2147483680) 17)) t_136_17
noncomputable def n_136_14 : e_Y := u_bin a_imul (u_old (o_imul 15) n_136_15) n_136_15
theorem t_136_14 : e_Sn 136 14 (e_un n_136_14) := u_imulT (s_imul hq_136 (by decide +kernel) rfl : e_Sn 136 14 (o_imul 15)) t_136_15
noncomputable def n_136_12 : e_Y := u_push (.inl 2147483680) n_136_14
theorem t_136_12 : e_Sn 136 12 (e_un n_136_12) := u_pushT (s_bipush (n := (32)) hq_136 (by decide +kernel) rfl ⟨by decide +kernel, by decide +kernel⟩ : e_Sn 136 12 (o_push (.inl 2147483680) 14)) t_136_14
noncomputable def n_136_11 : e_Y := u_ld f_okI f_l3 n_136_12
theorem t_136_11 : e_Sn 136 11 (e_un n_136_11) := u_ldIT f_l3_eq (s_iload (i := .iload_n 3) (len := 1) hq_136 (by decide +kernel) rfl (.inr ⟨3, rfl, rfl, rfl⟩) : e_Sn 136 11 (o_load e_okI 3 12)) t_136_12
noncomputable def n_136_10 : e_Y := u_ld f_okA f_l0 n_136_11
theorem t_136_10 : e_Sn 136 10 (e_un n_136_10) := u_ldAT f_l0_eq (s_aload (i := .aload_n 0) (len := 1) hq_136 (by decide +kernel) rfl (.inr ⟨0, rfl, rfl, rfl⟩) : e_Sn 136 10 (o_load e_okR 0 11)) t_136_11
noncomputable def n_136_9 : e_Y := u_ld f_okI f_l2 n_136_10
theorem t_136_9 : e_Sn 136 9 (e_un n_136_9) := u_ldIT f_l2_eq (s_iload (i := .iload_n 2) (len := 1) hq_136 (by decide +kernel) rfl (.inr ⟨2, rfl, rfl, rfl⟩) : e_Sn 136 9 (o_load e_okI 2 10)) t_136_10
noncomputable def n_136_6 : e_Y := u_jmp y_ge (u_old2 (o_clt 9 34) 9 n_136_9 n_136_34) n_136_9 n_136_34
theorem t_136_6 : e_Sn 136 6 (e_un n_136_6) := u_cltT rfl (s_cge (off := (28)) hq_136 (by decide +kernel) rfl rfl : e_Sn 136 6 (o_clt 9 34)) t_136_9 t_136_34
noncomputable def n_136_5 : e_Y := u_push (.inl 2147483652) n_136_6
theorem t_136_5 : e_Sn 136 5 (e_un n_136_5) := u_pushT (s_iconst (n := (4)) hq_136 (by decide +kernel) rfl ⟨by decide +kernel, by decide +kernel⟩ : e_Sn 136 5 (o_push (.inl 2147483652) 6)) t_136_6
noncomputable def n_136_4 : e_Y := u_ld f_okI f_l3 n_136_5
theorem t_136_4 : e_Sn 136 4 (e_un n_136_4) := u_ldIT f_l3_eq (s_iload (i := .iload_n 3) (len := 1) hq_136 (by decide +kernel) rfl (.inr ⟨3, rfl, rfl, rfl⟩) : e_Sn 136 4 (o_load e_okI 3 5)) t_136_5
noncomputable def n_136_3 : e_Y := u_st f_okI f_s3 n_136_4
theorem t_136_3 : e_Sn 136 3 (e_un n_136_3) := u_stIT (fun _ _ _ => f_s3_eq) (s_istore (i := .istore_n 3) (len := 1) hq_136 (by decide +kernel) rfl (.inr ⟨3, rfl, rfl, rfl⟩) : e_Sn 136 3 (o_store e_okI 3 4)) t_136_4
noncomputable def n_136_2 : e_Y := u_push (.inl 2147483648) n_136_3
theorem t_136_2 : e_Sn 136 2 (e_un n_136_2) := u_pushT (s_iconst (n := (0)) hq_136 (by decide +kernel) rfl ⟨by decide +kernel, by decide +kernel⟩ : e_Sn 136 2 (o_push (.inl 2147483648) 3)) t_136_3
noncomputable def n_136_1 : e_Y := u_st f_okI f_s2 n_136_2
theorem t_136_1 : e_Sn 136 1 (e_un n_136_1) := u_stIT (fun _ _ _ => f_s2_eq) (s_istore (i := .istore_n 2) (len := 1) hq_136 (by decide +kernel) rfl (.inr ⟨2, rfl, rfl, rfl⟩) : e_Sn 136 1 (o_store e_okI 2 2)) t_136_2
noncomputable def n_136_0 : e_Y := u_push (.inl 2147483648) n_136_1
theorem t_136_0 : e_Sn 136 0 (e_un n_136_0) := u_pushT (s_iconst (n := (0)) hq_136 (by decide +kernel) rfl ⟨by decide +kernel, by decide +kernel⟩ : e_Sn 136 0 (o_push (.inl 2147483648) 1)) t_136_1
noncomputable def e_tb_136 : e_X := (e_br 4 (e_lf 0 (e_un n_136_0)) (e_lf 4 (e_un n_136_4)))
theorem e_tk_136 : e_Tb 136 e_tb_136 := (e_brT (e_lfT t_136_0) (e_lfT t_136_4))
theorem hq_138 : (e_ml[138]?).map (·.2.1) = some prog_14_method_20_code := rfl
theorem ho_138 : (e_ml[138]?).map (·.1.cls) = some "PlateroomprinterModel" := rfl
theorem hr_138 : (e_ml[138]?).map (·.2.2.2) = some (some (.array .int)) := rfl
noncomputable def n_138_26 : e_Y := u_retA
theorem t_138_26 : e_Sn 138 26 (e_un n_138_26) := u_retAT (s_aret (.inr ⟨_, rfl⟩) hq_138 hr_138 (by decide +kernel) : e_Sn 138 26 (o_ret e_okR))
noncomputable def n_138_25 : e_Y := u_ld f_okA f_l1 n_138_26
theorem t_138_25 : e_Sn 138 25 (e_un n_138_25) := u_ldAT f_l1_eq (s_aload (i := .aload_n 1) (len := 1) hq_138 (by decide +kernel) rfl (.inr ⟨1, rfl, rfl, rfl⟩) : e_Sn 138 25 (o_load e_okR 1 26)) t_138_26
noncomputable def n_138_22 : e_Y := (u_at 7)
theorem t_138_22 : e_Sn 138 22 (e_un n_138_22) := u_gotoT (s_goto (off := (-15)) hq_138 (by decide +kernel) rfl : e_Sn 138 22 (o_goto 7)) u_atT
noncomputable def n_138_19 : e_Y := u_inc f_l2 f_s2 1 n_138_22
theorem t_138_19 : e_Sn 138 19 (e_un n_138_19) := u_incT f_l2_eq (fun _ _ _ => f_s2_eq) (s_iinc (zz := (1)) hq_138 (by decide +kernel) rfl (by decide +kernel) ⟨by decide, by decide⟩ : e_Sn 138 19 (o_iinc 2 1 22)) t_138_22
noncomputable def n_138_18 : e_Y := u_old (o_ast 0 e_okI 19) n_138_19
theorem t_138_18 : e_Sn 138 18 (e_un n_138_18) := u_oldT (s_iast hq_138 (by decide +kernel) rfl : e_Sn 138 18 (o_ast 0 e_okI 19)) t_138_19 (e_cg_ast 0 e_okI)
noncomputable def n_138_17 : e_Y := u_ald 0 (u_old (o_ald e_fcs 18) n_138_18) n_138_18
theorem t_138_17 : e_Sn 138 17 (e_un n_138_17) := u_aldT (s_iald hq_138 (by decide +kernel) rfl : e_Sn 138 17 (o_ald e_fcs 18)) t_138_18
noncomputable def n_138_16 : e_Y := u_ld f_okI f_l2 n_138_17
theorem t_138_16 : e_Sn 138 16 (e_un n_138_16) := u_ldIT f_l2_eq (s_iload (i := .iload_n 2) (len := 1) hq_138 (by decide +kernel) rfl (.inr ⟨2, rfl, rfl, rfl⟩) : e_Sn 138 16 (o_load e_okI 2 17)) t_138_17
noncomputable def n_138_15 : e_Y := u_ld f_okA f_l0 n_138_16
theorem t_138_15 : e_Sn 138 15 (e_un n_138_15) := u_ldAT f_l0_eq (s_aload (i := .aload_n 0) (len := 1) hq_138 (by decide +kernel) rfl (.inr ⟨0, rfl, rfl, rfl⟩) : e_Sn 138 15 (o_load e_okR 0 16)) t_138_16
noncomputable def n_138_14 : e_Y := u_ld f_okI f_l2 n_138_15
theorem t_138_14 : e_Sn 138 14 (e_un n_138_14) := u_ldIT f_l2_eq (s_iload (i := .iload_n 2) (len := 1) hq_138 (by decide +kernel) rfl (.inr ⟨2, rfl, rfl, rfl⟩) : e_Sn 138 14 (o_load e_okI 2 15)) t_138_15
noncomputable def n_138_13 : e_Y := u_ld f_okA f_l1 n_138_14
theorem t_138_13 : e_Sn 138 13 (e_un n_138_13) := u_ldAT f_l1_eq (s_aload (i := .aload_n 1) (len := 1) hq_138 (by decide +kernel) rfl (.inr ⟨1, rfl, rfl, rfl⟩) : e_Sn 138 13 (o_load e_okR 1 14)) t_138_14
noncomputable def n_138_10 : e_Y := u_jmp y_ge (u_old2 (o_clt 13 25) 13 n_138_13 n_138_25) n_138_13 n_138_25
theorem t_138_10 : e_Sn 138 10 (e_un n_138_10) := u_cltT rfl (s_cge (off := (15)) hq_138 (by decide +kernel) rfl rfl : e_Sn 138 10 (o_clt 13 25)) t_138_13 t_138_25
noncomputable def n_138_9 : e_Y := u_old (o_alen e_fcs 10) n_138_10
theorem t_138_9 : e_Sn 138 9 (e_un n_138_9) := u_oldT (s_alen hq_138 (by decide +kernel) rfl : e_Sn 138 9 (o_alen e_fcs 10)) t_138_10 (e_cg_alen e_fcs)
noncomputable def n_138_8 : e_Y := u_ld f_okA f_l0 n_138_9
theorem t_138_8 : e_Sn 138 8 (e_un n_138_8) := u_ldAT f_l0_eq (s_aload (i := .aload_n 0) (len := 1) hq_138 (by decide +kernel) rfl (.inr ⟨0, rfl, rfl, rfl⟩) : e_Sn 138 8 (o_load e_okR 0 9)) t_138_9
noncomputable def n_138_7 : e_Y := u_ld f_okI f_l2 n_138_8
theorem t_138_7 : e_Sn 138 7 (e_un n_138_7) := u_ldIT f_l2_eq (s_iload (i := .iload_n 2) (len := 1) hq_138 (by decide +kernel) rfl (.inr ⟨2, rfl, rfl, rfl⟩) : e_Sn 138 7 (o_load e_okI 2 8)) t_138_8
noncomputable def n_138_6 : e_Y := u_st f_okI f_s2 n_138_7
theorem t_138_6 : e_Sn 138 6 (e_un n_138_6) := u_stIT (fun _ _ _ => f_s2_eq) (s_istore (i := .istore_n 2) (len := 1) hq_138 (by decide +kernel) rfl (.inr ⟨2, rfl, rfl, rfl⟩) : e_Sn 138 6 (o_store e_okI 2 7)) t_138_7
noncomputable def n_138_5 : e_Y := u_push (.inl 2147483648) n_138_6
theorem t_138_5 : e_Sn 138 5 (e_un n_138_5) := u_pushT (s_iconst (n := (0)) hq_138 (by decide +kernel) rfl ⟨by decide +kernel, by decide +kernel⟩ : e_Sn 138 5 (o_push (.inl 2147483648) 6)) t_138_6
noncomputable def n_138_4 : e_Y := u_st f_okA f_s1 n_138_5
theorem t_138_4 : e_Sn 138 4 (e_un n_138_4) := u_stAT (fun _ _ _ => f_s1_eq) (s_astore (i := .astore_n 1) (len := 1) hq_138 (by decide +kernel) rfl (.inr ⟨1, rfl, rfl, rfl⟩) : e_Sn 138 4 (o_store e_okR 1 5)) t_138_5
noncomputable def n_138_2 : e_Y := u_tab (o_newa 0 (e_I 2147483648) 4)
theorem t_138_2 : e_Sn 138 2 (e_un n_138_2) := u_tabT (s_newI (List.mem_of_getElem? (i := 215) (by decide +kernel)) hq_138 (by decide +kernel) rfl : e_Sn 138 2 (o_newa 0 (e_I 2147483648) 4))
noncomputable def n_138_1 : e_Y := u_old (o_alen e_fcs 2) n_138_2
theorem t_138_1 : e_Sn 138 1 (e_un n_138_1) := u_oldT (s_alen hq_138 (by decide +kernel) rfl : e_Sn 138 1 (o_alen e_fcs 2)) t_138_2 (e_cg_alen e_fcs)
noncomputable def n_138_0 : e_Y := u_ld f_okA f_l0 n_138_1
theorem t_138_0 : e_Sn 138 0 (e_un n_138_0) := u_ldAT f_l0_eq (s_aload (i := .aload_n 0) (len := 1) hq_138 (by decide +kernel) rfl (.inr ⟨0, rfl, rfl, rfl⟩) : e_Sn 138 0 (o_load e_okR 0 1)) t_138_1
noncomputable def e_tb_138 : e_X := (e_br 4 (e_lf 0 (e_un n_138_0)) (e_br 7 (e_lf 4 (e_un n_138_4)) (e_lf 7 (e_un n_138_7))))
theorem e_tk_138 : e_Tb 138 e_tb_138 := (e_brT (e_lfT t_138_0) (e_brT (e_lfT t_138_4) (e_lfT t_138_7)))
theorem hq_139 : (e_ml[139]?).map (·.2.1) = some prog_14_method_19_code := rfl
theorem ho_139 : (e_ml[139]?).map (·.1.cls) = some "PlateroomprinterModel" := rfl
theorem hr_139 : (e_ml[139]?).map (·.2.2.2) = some (some (.array .boolean)) := rfl
noncomputable def n_139_26 : e_Y := u_retA
theorem t_139_26 : e_Sn 139 26 (e_un n_139_26) := u_retAT (s_aret (.inr ⟨_, rfl⟩) hq_139 hr_139 (by decide +kernel) : e_Sn 139 26 (o_ret e_okR))
noncomputable def n_139_25 : e_Y := u_ld f_okA f_l1 n_139_26
theorem t_139_25 : e_Sn 139 25 (e_un n_139_25) := u_ldAT f_l1_eq (s_aload (i := .aload_n 1) (len := 1) hq_139 (by decide +kernel) rfl (.inr ⟨1, rfl, rfl, rfl⟩) : e_Sn 139 25 (o_load e_okR 1 26)) t_139_26
noncomputable def n_139_22 : e_Y := (u_at 7)
theorem t_139_22 : e_Sn 139 22 (e_un n_139_22) := u_gotoT (s_goto (off := (-15)) hq_139 (by decide +kernel) rfl : e_Sn 139 22 (o_goto 7)) u_atT
noncomputable def n_139_19 : e_Y := u_inc f_l2 f_s2 1 n_139_22
theorem t_139_19 : e_Sn 139 19 (e_un n_139_19) := u_incT f_l2_eq (fun _ _ _ => f_s2_eq) (s_iinc (zz := (1)) hq_139 (by decide +kernel) rfl (by decide +kernel) ⟨by decide, by decide⟩ : e_Sn 139 19 (o_iinc 2 1 22)) t_139_22
noncomputable def n_139_18 : e_Y := u_old (o_ast 1 e_okZ 19) n_139_19
theorem t_139_18 : e_Sn 139 18 (e_un n_139_18) := u_oldT (s_zast hq_139 (by decide +kernel) rfl : e_Sn 139 18 (o_ast 1 e_okZ 19)) t_139_19 (e_cg_ast 1 e_okZ)
noncomputable def n_139_17 : e_Y := u_ald 1 (u_old (o_aldO 1 18) n_139_18) n_139_18
theorem t_139_17 : e_Sn 139 17 (e_un n_139_17) := u_aldOT (s_zald hq_139 (by decide +kernel) rfl : e_Sn 139 17 (o_aldO 1 18)) t_139_18
noncomputable def n_139_16 : e_Y := u_ld f_okI f_l2 n_139_17
theorem t_139_16 : e_Sn 139 16 (e_un n_139_16) := u_ldIT f_l2_eq (s_iload (i := .iload_n 2) (len := 1) hq_139 (by decide +kernel) rfl (.inr ⟨2, rfl, rfl, rfl⟩) : e_Sn 139 16 (o_load e_okI 2 17)) t_139_17
noncomputable def n_139_15 : e_Y := u_ld f_okA f_l0 n_139_16
theorem t_139_15 : e_Sn 139 15 (e_un n_139_15) := u_ldAT f_l0_eq (s_aload (i := .aload_n 0) (len := 1) hq_139 (by decide +kernel) rfl (.inr ⟨0, rfl, rfl, rfl⟩) : e_Sn 139 15 (o_load e_okR 0 16)) t_139_16
noncomputable def n_139_14 : e_Y := u_ld f_okI f_l2 n_139_15
theorem t_139_14 : e_Sn 139 14 (e_un n_139_14) := u_ldIT f_l2_eq (s_iload (i := .iload_n 2) (len := 1) hq_139 (by decide +kernel) rfl (.inr ⟨2, rfl, rfl, rfl⟩) : e_Sn 139 14 (o_load e_okI 2 15)) t_139_15
noncomputable def n_139_13 : e_Y := u_ld f_okA f_l1 n_139_14
theorem t_139_13 : e_Sn 139 13 (e_un n_139_13) := u_ldAT f_l1_eq (s_aload (i := .aload_n 1) (len := 1) hq_139 (by decide +kernel) rfl (.inr ⟨1, rfl, rfl, rfl⟩) : e_Sn 139 13 (o_load e_okR 1 14)) t_139_14
noncomputable def n_139_10 : e_Y := u_jmp y_ge (u_old2 (o_clt 13 25) 13 n_139_13 n_139_25) n_139_13 n_139_25
theorem t_139_10 : e_Sn 139 10 (e_un n_139_10) := u_cltT rfl (s_cge (off := (15)) hq_139 (by decide +kernel) rfl rfl : e_Sn 139 10 (o_clt 13 25)) t_139_13 t_139_25
noncomputable def n_139_9 : e_Y := u_old (o_alen e_fcs 10) n_139_10
theorem t_139_9 : e_Sn 139 9 (e_un n_139_9) := u_oldT (s_alen hq_139 (by decide +kernel) rfl : e_Sn 139 9 (o_alen e_fcs 10)) t_139_10 (e_cg_alen e_fcs)
noncomputable def n_139_8 : e_Y := u_ld f_okA f_l0 n_139_9
theorem t_139_8 : e_Sn 139 8 (e_un n_139_8) := u_ldAT f_l0_eq (s_aload (i := .aload_n 0) (len := 1) hq_139 (by decide +kernel) rfl (.inr ⟨0, rfl, rfl, rfl⟩) : e_Sn 139 8 (o_load e_okR 0 9)) t_139_9
noncomputable def n_139_7 : e_Y := u_ld f_okI f_l2 n_139_8
theorem t_139_7 : e_Sn 139 7 (e_un n_139_7) := u_ldIT f_l2_eq (s_iload (i := .iload_n 2) (len := 1) hq_139 (by decide +kernel) rfl (.inr ⟨2, rfl, rfl, rfl⟩) : e_Sn 139 7 (o_load e_okI 2 8)) t_139_8
noncomputable def n_139_6 : e_Y := u_st f_okI f_s2 n_139_7
theorem t_139_6 : e_Sn 139 6 (e_un n_139_6) := u_stIT (fun _ _ _ => f_s2_eq) (s_istore (i := .istore_n 2) (len := 1) hq_139 (by decide +kernel) rfl (.inr ⟨2, rfl, rfl, rfl⟩) : e_Sn 139 6 (o_store e_okI 2 7)) t_139_7
noncomputable def n_139_5 : e_Y := u_push (.inl 2147483648) n_139_6
theorem t_139_5 : e_Sn 139 5 (e_un n_139_5) := u_pushT (s_iconst (n := (0)) hq_139 (by decide +kernel) rfl ⟨by decide +kernel, by decide +kernel⟩ : e_Sn 139 5 (o_push (.inl 2147483648) 6)) t_139_6
noncomputable def n_139_4 : e_Y := u_st f_okA f_s1 n_139_5
theorem t_139_4 : e_Sn 139 4 (e_un n_139_4) := u_stAT (fun _ _ _ => f_s1_eq) (s_astore (i := .astore_n 1) (len := 1) hq_139 (by decide +kernel) rfl (.inr ⟨1, rfl, rfl, rfl⟩) : e_Sn 139 4 (o_store e_okR 1 5)) t_139_5
noncomputable def n_139_2 : e_Y := u_tab (o_newa 1 (e_I 2147483648) 4)
theorem t_139_2 : e_Sn 139 2 (e_un n_139_2) := u_tabT (s_newZ (List.mem_of_getElem? (i := 1819) (by decide +kernel)) hq_139 (by decide +kernel) rfl : e_Sn 139 2 (o_newa 1 (e_I 2147483648) 4))
noncomputable def n_139_1 : e_Y := u_old (o_alen e_fcs 2) n_139_2
theorem t_139_1 : e_Sn 139 1 (e_un n_139_1) := u_oldT (s_alen hq_139 (by decide +kernel) rfl : e_Sn 139 1 (o_alen e_fcs 2)) t_139_2 (e_cg_alen e_fcs)
noncomputable def n_139_0 : e_Y := u_ld f_okA f_l0 n_139_1
theorem t_139_0 : e_Sn 139 0 (e_un n_139_0) := u_ldAT f_l0_eq (s_aload (i := .aload_n 0) (len := 1) hq_139 (by decide +kernel) rfl (.inr ⟨0, rfl, rfl, rfl⟩) : e_Sn 139 0 (o_load e_okR 0 1)) t_139_1
noncomputable def e_tb_139 : e_X := (e_br 4 (e_lf 0 (e_un n_139_0)) (e_br 7 (e_lf 4 (e_un n_139_4)) (e_lf 7 (e_un n_139_7))))
theorem e_tk_139 : e_Tb 139 e_tb_139 := (e_brT (e_lfT t_139_0) (e_brT (e_lfT t_139_4) (e_lfT t_139_7)))
theorem hq_141 : (e_ml[141]?).map (·.2.1) = some prog_14_method_41_code := rfl
theorem ho_141 : (e_ml[141]?).map (·.1.cls) = some "PlateroomprinterModel" := rfl
theorem hr_141 : (e_ml[141]?).map (·.2.2.2) = some (some .int) := rfl
noncomputable def n_141_36 : e_Y := u_retI
theorem t_141_36 : e_Sn 141 36 (e_un n_141_36) := u_retIT (s_iret hq_141 hr_141 (by decide +kernel) : e_Sn 141 36 (o_ret e_okI))
noncomputable def n_141_33 : e_Y := u_getf 13 11 (u_old (o_getf (e_f1 13 11) 36) n_141_36) n_141_36
theorem t_141_33 : e_Sn 141 33 (e_un n_141_33) := u_getfT (s_getf (C := er_13) (T := et_13) (N := 13) (ref := "PlateroomprinterModel$Machine") (index := 209) (ci := 13) (k := 11) hq_141 ho_141 ⟨rfl, by decide, ei_13, (List.mem_of_getElem? (i := 1925) (by decide +kernel)), .inl rfl⟩ (by decide +kernel) rfl : e_Sn 141 33 (o_getf (e_f1 13 11) 36)) t_141_36
noncomputable def n_141_30 : e_Y := u_getf 12 1 (u_old (o_getf (e_f1 12 1) 33) n_141_33) n_141_33
theorem t_141_30 : e_Sn 141 30 (e_un n_141_30) := u_getfT (s_getf (C := er_12) (T := et_12) (N := 5) (ref := "PlateroomprinterModel") (index := 10) (ci := 12) (k := 1) hq_141 ho_141 ⟨rfl, by decide, ei_12, (List.mem_of_getElem? (i := 1959) (by decide +kernel)), .inl rfl⟩ (by decide +kernel) rfl : e_Sn 141 30 (o_getf (e_f1 12 1) 33)) t_141_33
noncomputable def n_141_29 : e_Y := u_ld f_okA f_l0 n_141_30
theorem t_141_29 : e_Sn 141 29 (e_un n_141_29) := u_ldAT f_l0_eq (s_aload (i := .aload_n 0) (len := 1) hq_141 (by decide +kernel) rfl (.inr ⟨0, rfl, rfl, rfl⟩) : e_Sn 141 29 (o_load e_okR 0 30)) t_141_30
noncomputable def n_141_26 : e_Y := n_141_36
theorem t_141_26 : e_Sn 141 26 (e_un n_141_26) := u_gotoT (s_goto (off := (10)) hq_141 (by decide +kernel) rfl : e_Sn 141 26 (o_goto 36)) t_141_36
noncomputable def n_141_23 : e_Y := u_getf 13 10 (u_old (o_getf (e_f1 13 10) 26) n_141_26) n_141_26
theorem t_141_23 : e_Sn 141 23 (e_un n_141_23) := u_getfT (s_getf (C := er_13) (T := et_13) (N := 13) (ref := "PlateroomprinterModel$Machine") (index := 206) (ci := 13) (k := 10) hq_141 ho_141 ⟨rfl, by decide, ei_13, (List.mem_of_getElem? (i := 1922) (by decide +kernel)), .inl rfl⟩ (by decide +kernel) rfl : e_Sn 141 23 (o_getf (e_f1 13 10) 26)) t_141_26
noncomputable def n_141_20 : e_Y := u_getf 12 1 (u_old (o_getf (e_f1 12 1) 23) n_141_23) n_141_23
theorem t_141_20 : e_Sn 141 20 (e_un n_141_20) := u_getfT (s_getf (C := er_12) (T := et_12) (N := 5) (ref := "PlateroomprinterModel") (index := 10) (ci := 12) (k := 1) hq_141 ho_141 ⟨rfl, by decide, ei_12, (List.mem_of_getElem? (i := 1959) (by decide +kernel)), .inl rfl⟩ (by decide +kernel) rfl : e_Sn 141 20 (o_getf (e_f1 12 1) 23)) t_141_23
noncomputable def n_141_19 : e_Y := u_ld f_okA f_l0 n_141_20
theorem t_141_19 : e_Sn 141 19 (e_un n_141_19) := u_ldAT f_l0_eq (s_aload (i := .aload_n 0) (len := 1) hq_141 (by decide +kernel) rfl (.inr ⟨0, rfl, rfl, rfl⟩) : e_Sn 141 19 (o_load e_okR 0 20)) t_141_20
noncomputable def n_141_16 : e_Y := u_jmp y_ne (u_old2 (o_ceq 19 29) 19 n_141_19 n_141_29) n_141_19 n_141_29
theorem t_141_16 : e_Sn 141 16 (e_un n_141_16) := u_ceqT rfl (s_cne (off := (13)) hq_141 (by decide +kernel) rfl rfl : e_Sn 141 16 (o_ceq 19 29)) t_141_19 t_141_29
noncomputable def n_141_15 : e_Y := u_push (.inl 2147483649) n_141_16
theorem t_141_15 : e_Sn 141 15 (e_un n_141_15) := u_pushT (s_iconst (n := (1)) hq_141 (by decide +kernel) rfl ⟨by decide +kernel, by decide +kernel⟩ : e_Sn 141 15 (o_push (.inl 2147483649) 16)) t_141_16
noncomputable def n_141_14 : e_Y := u_ld f_okI f_l1 n_141_15
theorem t_141_14 : e_Sn 141 14 (e_un n_141_14) := u_ldIT f_l1_eq (s_iload (i := .iload_n 1) (len := 1) hq_141 (by decide +kernel) rfl (.inr ⟨1, rfl, rfl, rfl⟩) : e_Sn 141 14 (o_load e_okI 1 15)) t_141_15
noncomputable def n_141_11 : e_Y := n_141_36
theorem t_141_11 : e_Sn 141 11 (e_un n_141_11) := u_gotoT (s_goto (off := (25)) hq_141 (by decide +kernel) rfl : e_Sn 141 11 (o_goto 36)) t_141_36
noncomputable def n_141_8 : e_Y := u_getf 13 9 (u_old (o_getf (e_f1 13 9) 11) n_141_11) n_141_11
theorem t_141_8 : e_Sn 141 8 (e_un n_141_8) := u_getfT (s_getf (C := er_13) (T := et_13) (N := 13) (ref := "PlateroomprinterModel$Machine") (index := 203) (ci := 13) (k := 9) hq_141 ho_141 ⟨rfl, by decide, ei_13, (List.mem_of_getElem? (i := 1919) (by decide +kernel)), .inl rfl⟩ (by decide +kernel) rfl : e_Sn 141 8 (o_getf (e_f1 13 9) 11)) t_141_11
noncomputable def n_141_5 : e_Y := u_getf 12 1 (u_old (o_getf (e_f1 12 1) 8) n_141_8) n_141_8
theorem t_141_5 : e_Sn 141 5 (e_un n_141_5) := u_getfT (s_getf (C := er_12) (T := et_12) (N := 5) (ref := "PlateroomprinterModel") (index := 10) (ci := 12) (k := 1) hq_141 ho_141 ⟨rfl, by decide, ei_12, (List.mem_of_getElem? (i := 1959) (by decide +kernel)), .inl rfl⟩ (by decide +kernel) rfl : e_Sn 141 5 (o_getf (e_f1 12 1) 8)) t_141_8
noncomputable def n_141_4 : e_Y := u_ld f_okA f_l0 n_141_5
theorem t_141_4 : e_Sn 141 4 (e_un n_141_4) := u_ldAT f_l0_eq (s_aload (i := .aload_n 0) (len := 1) hq_141 (by decide +kernel) rfl (.inr ⟨0, rfl, rfl, rfl⟩) : e_Sn 141 4 (o_load e_okR 0 5)) t_141_5
noncomputable def n_141_1 : e_Y := u_if y_ne0 (u_old2 (o_ifeq 4 14) 4 n_141_4 n_141_14) n_141_4 n_141_14
theorem t_141_1 : e_Sn 141 1 (e_un n_141_1) := u_ifeqT rfl (s_ifne (off := (13)) hq_141 (by decide +kernel) rfl rfl : e_Sn 141 1 (o_ifeq 4 14)) t_141_4 t_141_14
noncomputable def n_141_0 : e_Y := u_ld f_okI f_l1 n_141_1
theorem t_141_0 : e_Sn 141 0 (e_un n_141_0) := u_ldIT f_l1_eq (s_iload (i := .iload_n 1) (len := 1) hq_141 (by decide +kernel) rfl (.inr ⟨1, rfl, rfl, rfl⟩) : e_Sn 141 0 (o_load e_okI 1 1)) t_141_1
noncomputable def e_tb_141 : e_X := (e_lf 0 (e_un n_141_0))
theorem e_tk_141 : e_Tb 141 e_tb_141 := (e_lfT t_141_0)
theorem hq_140 : (e_ml[140]?).map (·.2.1) = some prog_14_method_42_code := rfl
theorem ho_140 : (e_ml[140]?).map (·.1.cls) = some "PlateroomprinterModel" := rfl
theorem hr_140 : (e_ml[140]?).map (·.2.2.2) = some (some .int) := rfl
noncomputable def n_140_34 : e_Y := u_retI
theorem t_140_34 : e_Sn 140 34 (e_un n_140_34) := u_retIT (s_iret hq_140 hr_140 (by decide +kernel) : e_Sn 140 34 (o_ret e_okI))
noncomputable def n_140_31 : e_Y := u_callV 12 141 2 21 2 n_141_0 n_140_34
theorem t_140_31 : e_Sn 140 31 (e_un n_140_31) := u_callVT rfl (s_callV (ci := 12) (C := er_12) (T := et_12) (N := 5) (index := 212) hq_140 ho_140 hy_141 hp_141 hc_141 hi_141 hd_141 (List.mem_of_getElem? (i := 2941) (by decide +kernel)) hs_141 (List.mem_of_getElem? (i := 123) (by decide +kernel)) rfl (by decide +kernel) rfl : e_Sn 140 31 (o_callV (e_s1 12 141 2) 2 34)) t_141_0 t_140_34
noncomputable def n_140_30 : e_Y := u_ld f_okI f_l1 n_140_31
theorem t_140_30 : e_Sn 140 30 (e_un n_140_30) := u_ldIT f_l1_eq (s_iload (i := .iload_n 1) (len := 1) hq_140 (by decide +kernel) rfl (.inr ⟨1, rfl, rfl, rfl⟩) : e_Sn 140 30 (o_load e_okI 1 31)) t_140_31
noncomputable def n_140_29 : e_Y := u_ld f_okA f_l0 n_140_30
theorem t_140_29 : e_Sn 140 29 (e_un n_140_29) := u_ldAT f_l0_eq (s_aload (i := .aload_n 0) (len := 1) hq_140 (by decide +kernel) rfl (.inr ⟨0, rfl, rfl, rfl⟩) : e_Sn 140 29 (o_load e_okR 0 30)) t_140_30
noncomputable def n_140_26 : e_Y := n_140_34
theorem t_140_26 : e_Sn 140 26 (e_un n_140_26) := u_gotoT (s_goto (off := (8)) hq_140 (by decide +kernel) rfl : e_Sn 140 26 (o_goto 34)) t_140_34
noncomputable def n_140_25 : e_Y := u_push (.inl 2147483648) n_140_26
theorem t_140_25 : e_Sn 140 25 (e_un n_140_25) := u_pushT (s_iconst (n := (0)) hq_140 (by decide +kernel) rfl ⟨by decide +kernel, by decide +kernel⟩ : e_Sn 140 25 (o_push (.inl 2147483648) 26)) t_140_26
noncomputable def n_140_22 : e_Y := u_if y_ne0 (u_old2 (o_ifeq 29 25) 29 n_140_29 n_140_25) n_140_29 n_140_25
theorem t_140_22 : e_Sn 140 22 (e_un n_140_22) := u_ifeqT rfl (s_ifeq (off := (7)) hq_140 (by decide +kernel) rfl rfl : e_Sn 140 22 (o_ifeq 29 25)) t_140_29 t_140_25
noncomputable def n_140_19 : e_Y := u_callV 12 195 3 22 3 n_195_0 n_140_22
theorem t_140_19 : e_Sn 140 19 (e_un n_140_19) := u_callVT rfl (s_callV (ci := 12) (C := er_12) (T := et_12) (N := 5) (index := 148) hq_140 ho_140 hy_195 hp_195 hc_195 hi_195 hd_195 (List.mem_of_getElem? (i := 1992) (by decide +kernel)) hs_195 (List.mem_of_getElem? (i := 73) (by decide +kernel)) rfl (by decide +kernel) rfl : e_Sn 140 19 (o_callV (e_s1 12 195 3) 3 22)) t_195_0 t_140_22
noncomputable def n_140_18 : e_Y := u_push (.inl 2147483649) n_140_19
theorem t_140_18 : e_Sn 140 18 (e_un n_140_18) := u_pushT (s_iconst (n := (1)) hq_140 (by decide +kernel) rfl ⟨by decide +kernel, by decide +kernel⟩ : e_Sn 140 18 (o_push (.inl 2147483649) 19)) t_140_19
noncomputable def n_140_17 : e_Y := u_push (.inl 2147483648) n_140_18
theorem t_140_17 : e_Sn 140 17 (e_un n_140_17) := u_pushT (s_iconst (n := (0)) hq_140 (by decide +kernel) rfl ⟨by decide +kernel, by decide +kernel⟩ : e_Sn 140 17 (o_push (.inl 2147483648) 18)) t_140_18
noncomputable def n_140_14 : e_Y := n_140_18
theorem t_140_14 : e_Sn 140 14 (e_un n_140_14) := u_gotoT (s_goto (off := (4)) hq_140 (by decide +kernel) rfl : e_Sn 140 14 (o_goto 18)) t_140_18
noncomputable def n_140_13 : e_Y := u_push (.inl 2147483649) n_140_14
theorem t_140_13 : e_Sn 140 13 (e_un n_140_13) := u_pushT (s_iconst (n := (1)) hq_140 (by decide +kernel) rfl ⟨by decide +kernel, by decide +kernel⟩ : e_Sn 140 13 (o_push (.inl 2147483649) 14)) t_140_14
noncomputable def n_140_10 : e_Y := u_if y_ne0 (u_old2 (o_ifeq 13 17) 13 n_140_13 n_140_17) n_140_13 n_140_17
theorem t_140_10 : e_Sn 140 10 (e_un n_140_10) := u_ifeqT rfl (s_ifne (off := (7)) hq_140 (by decide +kernel) rfl rfl : e_Sn 140 10 (o_ifeq 13 17)) t_140_13 t_140_17
noncomputable def n_140_7 : e_Y := u_callS 162 6 25 3 n_162_0 n_140_10
theorem t_140_7 : e_Sn 140 7 (e_un n_140_7) := u_callST rfl (s_callS (index := 136) hq_140 ho_140 hy_162 hp_162 hc_162 hi_162 hd_162 (List.mem_of_getElem? (i := 1987) (by decide +kernel)) hs_162 (by decide +kernel) rfl : e_Sn 140 7 (o_callS 162 6 3 10)) t_162_0 t_140_10
noncomputable def n_140_4 : e_Y := u_push (e_L 9223372036854775810) n_140_7
theorem t_140_4 : e_Sn 140 4 (e_un n_140_4) := u_pushT (s_ldc2 (index := 69) (v := (2)) hq_140 ho_140 (List.mem_of_getElem? (i := 2377) (by decide +kernel)) (by decide +kernel) rfl ⟨by decide +kernel, by decide +kernel⟩ : e_Sn 140 4 (o_push (e_L 9223372036854775810) 7)) t_140_7
noncomputable def n_140_3 : e_Y := u_push (e_L 9223372036854775808) n_140_4
theorem t_140_3 : e_Sn 140 3 (e_un n_140_3) := u_pushT (s_lconst (n := 0) hq_140 (by decide +kernel) rfl ⟨by decide +kernel, by decide +kernel⟩ : e_Sn 140 3 (o_push (e_L 9223372036854775808) 4)) t_140_4
noncomputable def n_140_2 : e_Y := u_old (o_i2l 3) n_140_3
theorem t_140_2 : e_Sn 140 2 (e_un n_140_2) := u_oldT (s_i2l hq_140 (by decide +kernel) rfl : e_Sn 140 2 (o_i2l 3)) t_140_3 e_congr_i2l
noncomputable def n_140_1 : e_Y := u_ld f_okI f_l1 n_140_2
theorem t_140_1 : e_Sn 140 1 (e_un n_140_1) := u_ldIT f_l1_eq (s_iload (i := .iload_n 1) (len := 1) hq_140 (by decide +kernel) rfl (.inr ⟨1, rfl, rfl, rfl⟩) : e_Sn 140 1 (o_load e_okI 1 2)) t_140_2
noncomputable def n_140_0 : e_Y := u_ld f_okA f_l0 n_140_1
theorem t_140_0 : e_Sn 140 0 (e_un n_140_0) := u_ldAT f_l0_eq (s_aload (i := .aload_n 0) (len := 1) hq_140 (by decide +kernel) rfl (.inr ⟨0, rfl, rfl, rfl⟩) : e_Sn 140 0 (o_load e_okR 0 1)) t_140_1
noncomputable def e_tb_140 : e_X := (e_lf 0 (e_un n_140_0))
theorem e_tk_140 : e_Tb 140 e_tb_140 := (e_lfT t_140_0)
theorem hq_143 : (e_ml[143]?).map (·.2.1) = some prog_14_method_73_code := rfl
theorem ho_143 : (e_ml[143]?).map (·.1.cls) = some "PlateroomprinterModel" := rfl
theorem hr_143 : (e_ml[143]?).map (·.2.2.2) = some (some .int) := rfl
noncomputable def n_143_35 : e_Y := u_retI
theorem t_143_35 : e_Sn 143 35 (e_un n_143_35) := u_retIT (s_iret hq_143 hr_143 (by decide +kernel) : e_Sn 143 35 (o_ret e_okI))
noncomputable def n_143_34 : e_Y := u_ld f_okI f_l2 n_143_35
theorem t_143_34 : e_Sn 143 34 (e_un n_143_34) := u_ldIT f_l2_eq (s_iload (i := .iload_n 2) (len := 1) hq_143 (by decide +kernel) rfl (.inr ⟨2, rfl, rfl, rfl⟩) : e_Sn 143 34 (o_load e_okI 2 35)) t_143_35
noncomputable def n_143_31 : e_Y := (u_at 4)
theorem t_143_31 : e_Sn 143 31 (e_un n_143_31) := u_gotoT (s_goto (off := (-27)) hq_143 (by decide +kernel) rfl : e_Sn 143 31 (o_goto 4)) u_atT
noncomputable def n_143_28 : e_Y := u_inc f_l3 f_s3 1 n_143_31
theorem t_143_28 : e_Sn 143 28 (e_un n_143_28) := u_incT f_l3_eq (fun _ _ _ => f_s3_eq) (s_iinc (zz := (1)) hq_143 (by decide +kernel) rfl (by decide +kernel) ⟨by decide, by decide⟩ : e_Sn 143 28 (o_iinc 3 1 31)) t_143_31
noncomputable def n_143_27 : e_Y := u_st f_okI f_s2 n_143_28
theorem t_143_27 : e_Sn 143 27 (e_un n_143_27) := u_stIT (fun _ _ _ => f_s2_eq) (s_istore (i := .istore_n 2) (len := 1) hq_143 (by decide +kernel) rfl (.inr ⟨2, rfl, rfl, rfl⟩) : e_Sn 143 27 (o_store e_okI 2 28)) t_143_28
noncomputable def n_143_26 : e_Y := u_bin a_iadd (u_old (o_iadd 27) n_143_27) n_143_27
theorem t_143_26 : e_Sn 143 26 (e_un n_143_26) := u_iaddT (s_iadd hq_143 (by decide +kernel) rfl : e_Sn 143 26 (o_iadd 27)) t_143_27
noncomputable def n_143_23 : e_Y := u_callS 180 1 20 1 n_180_0 n_143_26
theorem t_143_23 : e_Sn 143 23 (e_un n_143_23) := u_callST rfl (s_callS (index := 107) hq_143 ho_143 hy_180 hp_180 hc_180 hi_180 hd_180 (List.mem_of_getElem? (i := 2482) (by decide +kernel)) hs_180 (by decide +kernel) rfl : e_Sn 143 23 (o_callS 180 1 1 26)) t_180_0 t_143_26
noncomputable def n_143_22 : e_Y := u_ald 1 (u_old (o_aldO 1 23) n_143_23) n_143_23
theorem t_143_22 : e_Sn 143 22 (e_un n_143_22) := u_aldOT (s_zald hq_143 (by decide +kernel) rfl : e_Sn 143 22 (o_aldO 1 23)) t_143_23
noncomputable def n_143_21 : e_Y := u_bin a_iadd (u_old (o_iadd 22) n_143_22) n_143_22
theorem t_143_21 : e_Sn 143 21 (e_un n_143_21) := u_iaddT (s_iadd hq_143 (by decide +kernel) rfl : e_Sn 143 21 (o_iadd 22)) t_143_22
noncomputable def n_143_20 : e_Y := u_ld f_okI f_l3 n_143_21
theorem t_143_20 : e_Sn 143 20 (e_un n_143_20) := u_ldIT f_l3_eq (s_iload (i := .iload_n 3) (len := 1) hq_143 (by decide +kernel) rfl (.inr ⟨3, rfl, rfl, rfl⟩) : e_Sn 143 20 (o_load e_okI 3 21)) t_143_21
noncomputable def n_143_19 : e_Y := u_bin a_imul (u_old (o_imul 20) n_143_20) n_143_20
theorem t_143_19 : e_Sn 143 19 (e_un n_143_19) := u_imulT (s_imul hq_143 (by decide +kernel) rfl : e_Sn 143 19 (o_imul 20)) t_143_20
noncomputable def n_143_17 : e_Y := u_push (.inl 2147483680) n_143_19
theorem t_143_17 : e_Sn 143 17 (e_un n_143_17) := u_pushT (s_bipush (n := (32)) hq_143 (by decide +kernel) rfl ⟨by decide +kernel, by decide +kernel⟩ : e_Sn 143 17 (o_push (.inl 2147483680) 19)) t_143_19
noncomputable def n_143_16 : e_Y := u_bin a_imul (u_old (o_imul 17) n_143_17) n_143_17
theorem t_143_16 : e_Sn 143 16 (e_un n_143_16) := u_imulT (s_imul hq_143 (by decide +kernel) rfl : e_Sn 143 16 (o_imul 17)) t_143_17
noncomputable def n_143_14 : e_Y := u_push (.inl 2147483680) n_143_16
theorem t_143_14 : e_Sn 143 14 (e_un n_143_14) := u_pushT (s_bipush (n := (32)) hq_143 (by decide +kernel) rfl ⟨by decide +kernel, by decide +kernel⟩ : e_Sn 143 14 (o_push (.inl 2147483680) 16)) t_143_16
noncomputable def n_143_13 : e_Y := u_ld f_okI f_l1 n_143_14
theorem t_143_13 : e_Sn 143 13 (e_un n_143_13) := u_ldIT f_l1_eq (s_iload (i := .iload_n 1) (len := 1) hq_143 (by decide +kernel) rfl (.inr ⟨1, rfl, rfl, rfl⟩) : e_Sn 143 13 (o_load e_okI 1 14)) t_143_14
noncomputable def n_143_12 : e_Y := u_ld f_okA f_l0 n_143_13
theorem t_143_12 : e_Sn 143 12 (e_un n_143_12) := u_ldAT f_l0_eq (s_aload (i := .aload_n 0) (len := 1) hq_143 (by decide +kernel) rfl (.inr ⟨0, rfl, rfl, rfl⟩) : e_Sn 143 12 (o_load e_okR 0 13)) t_143_13
noncomputable def n_143_11 : e_Y := u_ld f_okI f_l2 n_143_12
theorem t_143_11 : e_Sn 143 11 (e_un n_143_11) := u_ldIT f_l2_eq (s_iload (i := .iload_n 2) (len := 1) hq_143 (by decide +kernel) rfl (.inr ⟨2, rfl, rfl, rfl⟩) : e_Sn 143 11 (o_load e_okI 2 12)) t_143_12
noncomputable def n_143_8 : e_Y := u_jmp y_ge (u_old2 (o_clt 11 34) 11 n_143_11 n_143_34) n_143_11 n_143_34
theorem t_143_8 : e_Sn 143 8 (e_un n_143_8) := u_cltT rfl (s_cge (off := (26)) hq_143 (by decide +kernel) rfl rfl : e_Sn 143 8 (o_clt 11 34)) t_143_11 t_143_34
noncomputable def n_143_5 : e_Y := u_push (.inl 2147484672) n_143_8
theorem t_143_5 : e_Sn 143 5 (e_un n_143_5) := u_pushT (s_sipush (n := (1024)) hq_143 (by decide +kernel) rfl ⟨by decide +kernel, by decide +kernel⟩ : e_Sn 143 5 (o_push (.inl 2147484672) 8)) t_143_8
noncomputable def n_143_4 : e_Y := u_ld f_okI f_l3 n_143_5
theorem t_143_4 : e_Sn 143 4 (e_un n_143_4) := u_ldIT f_l3_eq (s_iload (i := .iload_n 3) (len := 1) hq_143 (by decide +kernel) rfl (.inr ⟨3, rfl, rfl, rfl⟩) : e_Sn 143 4 (o_load e_okI 3 5)) t_143_5
noncomputable def n_143_3 : e_Y := u_st f_okI f_s3 n_143_4
theorem t_143_3 : e_Sn 143 3 (e_un n_143_3) := u_stIT (fun _ _ _ => f_s3_eq) (s_istore (i := .istore_n 3) (len := 1) hq_143 (by decide +kernel) rfl (.inr ⟨3, rfl, rfl, rfl⟩) : e_Sn 143 3 (o_store e_okI 3 4)) t_143_4
noncomputable def n_143_2 : e_Y := u_push (.inl 2147483648) n_143_3
theorem t_143_2 : e_Sn 143 2 (e_un n_143_2) := u_pushT (s_iconst (n := (0)) hq_143 (by decide +kernel) rfl ⟨by decide +kernel, by decide +kernel⟩ : e_Sn 143 2 (o_push (.inl 2147483648) 3)) t_143_3
noncomputable def n_143_1 : e_Y := u_st f_okI f_s2 n_143_2
theorem t_143_1 : e_Sn 143 1 (e_un n_143_1) := u_stIT (fun _ _ _ => f_s2_eq) (s_istore (i := .istore_n 2) (len := 1) hq_143 (by decide +kernel) rfl (.inr ⟨2, rfl, rfl, rfl⟩) : e_Sn 143 1 (o_store e_okI 2 2)) t_143_2
noncomputable def n_143_0 : e_Y := u_push (.inl 2147483648) n_143_1
theorem t_143_0 : e_Sn 143 0 (e_un n_143_0) := u_pushT (s_iconst (n := (0)) hq_143 (by decide +kernel) rfl ⟨by decide +kernel, by decide +kernel⟩ : e_Sn 143 0 (o_push (.inl 2147483648) 1)) t_143_1
noncomputable def e_tb_143 : e_X := (e_br 4 (e_lf 0 (e_un n_143_0)) (e_lf 4 (e_un n_143_4)))
theorem e_tk_143 : e_Tb 143 e_tb_143 := (e_brT (e_lfT t_143_0) (e_lfT t_143_4))
theorem hq_164 : (e_ml[164]?).map (·.2.1) = some prog_14_method_71_code := rfl
theorem ho_164 : (e_ml[164]?).map (·.1.cls) = some "PlateroomprinterModel" := rfl
theorem hr_164 : (e_ml[164]?).map (·.2.2.2) = some (some .boolean) := rfl
noncomputable def n_164_17 : e_Y := u_tab (o_ret e_okZ)
theorem t_164_17 : e_Sn 164 17 (e_un n_164_17) := u_tabT (s_zret hq_164 hr_164 (by decide +kernel) : e_Sn 164 17 (o_ret e_okZ))
noncomputable def n_164_16 : e_Y := u_push (.inl 2147483648) n_164_17
theorem t_164_16 : e_Sn 164 16 (e_un n_164_16) := u_pushT (s_iconst (n := (0)) hq_164 (by decide +kernel) rfl ⟨by decide +kernel, by decide +kernel⟩ : e_Sn 164 16 (o_push (.inl 2147483648) 17)) t_164_17
noncomputable def n_164_13 : e_Y := n_164_17
theorem t_164_13 : e_Sn 164 13 (e_un n_164_13) := u_gotoT (s_goto (off := (4)) hq_164 (by decide +kernel) rfl : e_Sn 164 13 (o_goto 17)) t_164_17
noncomputable def n_164_12 : e_Y := u_push (.inl 2147483649) n_164_13
theorem t_164_12 : e_Sn 164 12 (e_un n_164_12) := u_pushT (s_iconst (n := (1)) hq_164 (by decide +kernel) rfl ⟨by decide +kernel, by decide +kernel⟩ : e_Sn 164 12 (o_push (.inl 2147483649) 13)) t_164_13
noncomputable def n_164_9 : e_Y := u_if y_ne0 (u_old2 (o_ifeq 12 16) 12 n_164_12 n_164_16) n_164_12 n_164_16
theorem t_164_9 : e_Sn 164 9 (e_un n_164_9) := u_ifeqT rfl (s_ifne (off := (7)) hq_164 (by decide +kernel) rfl rfl : e_Sn 164 9 (o_ifeq 12 16)) t_164_12 t_164_16
noncomputable def n_164_6 : e_Y := u_callS 162 6 25 3 n_162_0 n_164_9
theorem t_164_6 : e_Sn 164 6 (e_un n_164_6) := u_callST rfl (s_callS (index := 136) hq_164 ho_164 hy_162 hp_162 hc_162 hi_162 hd_162 (List.mem_of_getElem? (i := 1987) (by decide +kernel)) hs_162 (by decide +kernel) rfl : e_Sn 164 6 (o_callS 162 6 3 9)) t_162_0 t_164_9
noncomputable def n_164_3 : e_Y := u_push (e_L 9223372036854775811) n_164_6
theorem t_164_3 : e_Sn 164 3 (e_un n_164_3) := u_pushT (s_ldc2 (index := 331) (v := (3)) hq_164 ho_164 (List.mem_of_getElem? (i := 3070) (by decide +kernel)) (by decide +kernel) rfl ⟨by decide +kernel, by decide +kernel⟩ : e_Sn 164 3 (o_push (e_L 9223372036854775811) 6)) t_164_6
noncomputable def n_164_2 : e_Y := u_push (e_L 9223372036854775808) n_164_3
theorem t_164_2 : e_Sn 164 2 (e_un n_164_2) := u_pushT (s_lconst (n := 0) hq_164 (by decide +kernel) rfl ⟨by decide +kernel, by decide +kernel⟩ : e_Sn 164 2 (o_push (e_L 9223372036854775808) 3)) t_164_3
noncomputable def n_164_1 : e_Y := u_old (o_i2l 2) n_164_2
theorem t_164_1 : e_Sn 164 1 (e_un n_164_1) := u_oldT (s_i2l hq_164 (by decide +kernel) rfl : e_Sn 164 1 (o_i2l 2)) t_164_2 e_congr_i2l
noncomputable def n_164_0 : e_Y := u_ld f_okI f_l0 n_164_1
theorem t_164_0 : e_Sn 164 0 (e_un n_164_0) := u_ldIT f_l0_eq (s_iload (i := .iload_n 0) (len := 1) hq_164 (by decide +kernel) rfl (.inr ⟨0, rfl, rfl, rfl⟩) : e_Sn 164 0 (o_load e_okI 0 1)) t_164_1
noncomputable def e_tb_164 : e_X := (e_lf 0 (e_un n_164_0))
theorem e_tk_164 : e_Tb 164 e_tb_164 := (e_lfT t_164_0)
theorem hq_142 : (e_ml[142]?).map (·.2.1) = some prog_14_method_74_code := rfl
theorem ho_142 : (e_ml[142]?).map (·.1.cls) = some "PlateroomprinterModel" := rfl
theorem hr_142 : (e_ml[142]?).map (·.2.2.2) = some (some .int) := rfl
noncomputable def n_142_27 : e_Y := u_retI
theorem t_142_27 : e_Sn 142 27 (e_un n_142_27) := u_retIT (s_iret hq_142 hr_142 (by decide +kernel) : e_Sn 142 27 (o_ret e_okI))
noncomputable def n_142_24 : e_Y := u_callS 143 4 23 2 n_143_0 n_142_27
theorem t_142_24 : e_Sn 142 24 (e_un n_142_24) := u_callST rfl (s_callS (index := 339) hq_142 ho_142 hy_143 hp_143 hc_143 hi_143 hd_143 (List.mem_of_getElem? (i := 3079) (by decide +kernel)) hs_143 (by decide +kernel) rfl : e_Sn 142 24 (o_callS 143 4 2 27)) t_143_0 t_142_27
noncomputable def n_142_23 : e_Y := u_ld f_okI f_l1 n_142_24
theorem t_142_23 : e_Sn 142 23 (e_un n_142_23) := u_ldIT f_l1_eq (s_iload (i := .iload_n 1) (len := 1) hq_142 (by decide +kernel) rfl (.inr ⟨1, rfl, rfl, rfl⟩) : e_Sn 142 23 (o_load e_okI 1 24)) t_142_24
noncomputable def n_142_20 : e_Y := u_getf 13 6 (u_old (o_getf (e_f1 13 6) 23) n_142_23) n_142_23
theorem t_142_20 : e_Sn 142 20 (e_un n_142_20) := u_getfT (s_getf (C := er_13) (T := et_13) (N := 13) (ref := "PlateroomprinterModel$Machine") (index := 324) (ci := 13) (k := 6) hq_142 ho_142 ⟨rfl, by decide, ei_13, (List.mem_of_getElem? (i := 1910) (by decide +kernel)), .inl rfl⟩ (by decide +kernel) rfl : e_Sn 142 20 (o_getf (e_f1 13 6) 23)) t_142_23
noncomputable def n_142_17 : e_Y := u_getf 12 1 (u_old (o_getf (e_f1 12 1) 20) n_142_20) n_142_20
theorem t_142_17 : e_Sn 142 17 (e_un n_142_17) := u_getfT (s_getf (C := er_12) (T := et_12) (N := 5) (ref := "PlateroomprinterModel") (index := 10) (ci := 12) (k := 1) hq_142 ho_142 ⟨rfl, by decide, ei_12, (List.mem_of_getElem? (i := 1959) (by decide +kernel)), .inl rfl⟩ (by decide +kernel) rfl : e_Sn 142 17 (o_getf (e_f1 12 1) 20)) t_142_20
noncomputable def n_142_16 : e_Y := u_ld f_okA f_l0 n_142_17
theorem t_142_16 : e_Sn 142 16 (e_un n_142_16) := u_ldAT f_l0_eq (s_aload (i := .aload_n 0) (len := 1) hq_142 (by decide +kernel) rfl (.inr ⟨0, rfl, rfl, rfl⟩) : e_Sn 142 16 (o_load e_okR 0 17)) t_142_17
noncomputable def n_142_13 : e_Y := n_142_27
theorem t_142_13 : e_Sn 142 13 (e_un n_142_13) := u_gotoT (s_goto (off := (14)) hq_142 (by decide +kernel) rfl : e_Sn 142 13 (o_goto 27)) t_142_27
noncomputable def n_142_12 : e_Y := u_push (.inl 2147483648) n_142_13
theorem t_142_12 : e_Sn 142 12 (e_un n_142_12) := u_pushT (s_iconst (n := (0)) hq_142 (by decide +kernel) rfl ⟨by decide +kernel, by decide +kernel⟩ : e_Sn 142 12 (o_push (.inl 2147483648) 13)) t_142_13
noncomputable def n_142_9 : e_Y := u_if y_ne0 (u_old2 (o_ifeq 16 12) 16 n_142_16 n_142_12) n_142_16 n_142_12
theorem t_142_9 : e_Sn 142 9 (e_un n_142_9) := u_ifeqT rfl (s_ifeq (off := (7)) hq_142 (by decide +kernel) rfl rfl : e_Sn 142 9 (o_ifeq 16 12)) t_142_16 t_142_12
noncomputable def n_142_6 : e_Y := u_callV 12 195 3 22 3 n_195_0 n_142_9
theorem t_142_6 : e_Sn 142 6 (e_un n_142_6) := u_callVT rfl (s_callV (ci := 12) (C := er_12) (T := et_12) (N := 5) (index := 148) hq_142 ho_142 hy_195 hp_195 hc_195 hi_195 hd_195 (List.mem_of_getElem? (i := 1992) (by decide +kernel)) hs_195 (List.mem_of_getElem? (i := 73) (by decide +kernel)) rfl (by decide +kernel) rfl : e_Sn 142 6 (o_callV (e_s1 12 195 3) 3 9)) t_195_0 t_142_9
noncomputable def n_142_5 : e_Y := u_push (.inl 2147483649) n_142_6
theorem t_142_5 : e_Sn 142 5 (e_un n_142_5) := u_pushT (s_iconst (n := (1)) hq_142 (by decide +kernel) rfl ⟨by decide +kernel, by decide +kernel⟩ : e_Sn 142 5 (o_push (.inl 2147483649) 6)) t_142_6
noncomputable def n_142_2 : e_Y := u_callS 164 1 20 1 n_164_0 n_142_5
theorem t_142_2 : e_Sn 142 2 (e_un n_142_2) := u_callST rfl (s_callS (index := 333) hq_142 ho_142 hy_164 hp_164 hc_164 hi_164 hd_164 (List.mem_of_getElem? (i := 3067) (by decide +kernel)) hs_164 (by decide +kernel) rfl : e_Sn 142 2 (o_callS 164 1 1 5)) t_164_0 t_142_5
noncomputable def n_142_1 : e_Y := u_ld f_okI f_l1 n_142_2
theorem t_142_1 : e_Sn 142 1 (e_un n_142_1) := u_ldIT f_l1_eq (s_iload (i := .iload_n 1) (len := 1) hq_142 (by decide +kernel) rfl (.inr ⟨1, rfl, rfl, rfl⟩) : e_Sn 142 1 (o_load e_okI 1 2)) t_142_2
noncomputable def n_142_0 : e_Y := u_ld f_okA f_l0 n_142_1
theorem t_142_0 : e_Sn 142 0 (e_un n_142_0) := u_ldAT f_l0_eq (s_aload (i := .aload_n 0) (len := 1) hq_142 (by decide +kernel) rfl (.inr ⟨0, rfl, rfl, rfl⟩) : e_Sn 142 0 (o_load e_okR 0 1)) t_142_1
noncomputable def e_tb_142 : e_X := (e_lf 0 (e_un n_142_0))
theorem e_tk_142 : e_Tb 142 e_tb_142 := (e_lfT t_142_0)
theorem hq_179 : (e_ml[179]?).map (·.2.1) = some prog_14_method_39_code := rfl
theorem ho_179 : (e_ml[179]?).map (·.1.cls) = some "PlateroomprinterModel" := rfl
theorem hr_179 : (e_ml[179]?).map (·.2.2.2) = some (some .int) := rfl
noncomputable def n_179_31 : e_Y := u_retI
theorem t_179_31 : e_Sn 179 31 (e_un n_179_31) := u_retIT (s_iret hq_179 hr_179 (by decide +kernel) : e_Sn 179 31 (o_ret e_okI))
noncomputable def n_179_15 : e_Y := n_179_31
theorem t_179_15 : e_Sn 179 15 (e_un n_179_15) := u_gotoT (s_goto (off := (16)) hq_179 (by decide +kernel) rfl : e_Sn 179 15 (o_goto 31)) t_179_31
noncomputable def n_179_14 : e_Y := u_bin a_isub (u_old (o_isub 15) n_179_15) n_179_15
theorem t_179_14 : e_Sn 179 14 (e_un n_179_14) := u_isubT (s_isub hq_179 (by decide +kernel) rfl : e_Sn 179 14 (o_isub 15)) t_179_15
noncomputable def n_179_13 : e_Y := u_push (.inl 2147483649) n_179_14
theorem t_179_13 : e_Sn 179 13 (e_un n_179_13) := u_pushT (s_iconst (n := (1)) hq_179 (by decide +kernel) rfl ⟨by decide +kernel, by decide +kernel⟩ : e_Sn 179 13 (o_push (.inl 2147483649) 14)) t_179_14
noncomputable def n_179_12 : e_Y := u_ld f_okI f_l2 n_179_13
theorem t_179_12 : e_Sn 179 12 (e_un n_179_12) := u_ldIT f_l2_eq (s_iload (i := .iload_n 2) (len := 1) hq_179 (by decide +kernel) rfl (.inr ⟨2, rfl, rfl, rfl⟩) : e_Sn 179 12 (o_load e_okI 2 13)) t_179_13
noncomputable def n_179_9 : e_Y := u_tab (o_null 12 18)
theorem t_179_9 : e_Sn 179 9 (e_un n_179_9) := u_tabT (s_ifnonnull (off := (9)) hq_179 (by decide +kernel) rfl rfl : e_Sn 179 9 (o_null 12 18))
noncomputable def n_179_8 : e_Y := u_ald 6 (u_old (o_aldO 6 9) n_179_9) n_179_9
theorem t_179_8 : e_Sn 179 8 (e_un n_179_8) := u_aldOT (s_aald (tc := 3) rfl hq_179 (by decide +kernel) rfl : e_Sn 179 8 (o_aldO 6 9)) t_179_9
noncomputable def n_179_7 : e_Y := u_ld f_okI f_l1 n_179_8
theorem t_179_7 : e_Sn 179 7 (e_un n_179_7) := u_ldIT f_l1_eq (s_iload (i := .iload_n 1) (len := 1) hq_179 (by decide +kernel) rfl (.inr ⟨1, rfl, rfl, rfl⟩) : e_Sn 179 7 (o_load e_okI 1 8)) t_179_8
noncomputable def n_179_4 : e_Y := u_getf 13 1 (u_old (o_getf (e_f1 13 1) 7) n_179_7) n_179_7
theorem t_179_4 : e_Sn 179 4 (e_un n_179_4) := u_getfT (s_getf (C := er_13) (T := et_13) (N := 13) (ref := "PlateroomprinterModel$Machine") (index := 195) (ci := 13) (k := 1) hq_179 ho_179 ⟨rfl, by decide, ei_13, (List.mem_of_getElem? (i := 1895) (by decide +kernel)), .inl rfl⟩ (by decide +kernel) rfl : e_Sn 179 4 (o_getf (e_f1 13 1) 7)) t_179_7
noncomputable def n_179_1 : e_Y := u_getf 12 1 (u_old (o_getf (e_f1 12 1) 4) n_179_4) n_179_4
theorem t_179_1 : e_Sn 179 1 (e_un n_179_1) := u_getfT (s_getf (C := er_12) (T := et_12) (N := 5) (ref := "PlateroomprinterModel") (index := 10) (ci := 12) (k := 1) hq_179 ho_179 ⟨rfl, by decide, ei_12, (List.mem_of_getElem? (i := 1959) (by decide +kernel)), .inl rfl⟩ (by decide +kernel) rfl : e_Sn 179 1 (o_getf (e_f1 12 1) 4)) t_179_4
noncomputable def n_179_0 : e_Y := u_ld f_okA f_l0 n_179_1
theorem t_179_0 : e_Sn 179 0 (e_un n_179_0) := u_ldAT f_l0_eq (s_aload (i := .aload_n 0) (len := 1) hq_179 (by decide +kernel) rfl (.inr ⟨0, rfl, rfl, rfl⟩) : e_Sn 179 0 (o_load e_okR 0 1)) t_179_1
noncomputable def e_tb_179 : e_X := (e_br 12 (e_lf 0 (e_un n_179_0)) (e_lf 12 (e_un n_179_12)))
theorem e_tk_179 : e_Tb 179 e_tb_179 := (e_brT (e_lfT t_179_0) (e_lfT t_179_12))
theorem hq_182 : (e_ml[182]?).map (·.2.1) = some prog_14_method_79_code := rfl
theorem ho_182 : (e_ml[182]?).map (·.1.cls) = some "PlateroomprinterModel" := rfl
theorem hr_182 : (e_ml[182]?).map (·.2.2.2) = some (some .int) := rfl
noncomputable def n_182_23 : e_Y := u_retI
theorem t_182_23 : e_Sn 182 23 (e_un n_182_23) := u_retIT (s_iret hq_182 hr_182 (by decide +kernel) : e_Sn 182 23 (o_ret e_okI))
noncomputable def n_182_22 : e_Y := u_push (.inl 2147483648) n_182_23
theorem t_182_22 : e_Sn 182 22 (e_un n_182_22) := u_pushT (s_iconst (n := (0)) hq_182 (by decide +kernel) rfl ⟨by decide +kernel, by decide +kernel⟩ : e_Sn 182 22 (o_push (.inl 2147483648) 23)) t_182_23
noncomputable def n_182_19 : e_Y := u_tab (o_null 22 24)
theorem t_182_19 : e_Sn 182 19 (e_un n_182_19) := u_tabT (s_ifnonnull (off := (5)) hq_182 (by decide +kernel) rfl rfl : e_Sn 182 19 (o_null 22 24))
noncomputable def n_182_16 : e_Y := u_getf 13 7 (u_old (o_getf (e_f1 13 7) 19) n_182_19) n_182_19
theorem t_182_16 : e_Sn 182 16 (e_un n_182_16) := u_getfT (s_getf (C := er_13) (T := et_13) (N := 13) (ref := "PlateroomprinterModel$Machine") (index := 364) (ci := 13) (k := 7) hq_182 ho_182 ⟨rfl, by decide, ei_13, (List.mem_of_getElem? (i := 1913) (by decide +kernel)), .inl rfl⟩ (by decide +kernel) rfl : e_Sn 182 16 (o_getf (e_f1 13 7) 19)) t_182_19
noncomputable def n_182_13 : e_Y := u_getf 12 1 (u_old (o_getf (e_f1 12 1) 16) n_182_16) n_182_16
theorem t_182_13 : e_Sn 182 13 (e_un n_182_13) := u_getfT (s_getf (C := er_12) (T := et_12) (N := 5) (ref := "PlateroomprinterModel") (index := 10) (ci := 12) (k := 1) hq_182 ho_182 ⟨rfl, by decide, ei_12, (List.mem_of_getElem? (i := 1959) (by decide +kernel)), .inl rfl⟩ (by decide +kernel) rfl : e_Sn 182 13 (o_getf (e_f1 12 1) 16)) t_182_16
noncomputable def n_182_12 : e_Y := u_ld f_okA f_l0 n_182_13
theorem t_182_12 : e_Sn 182 12 (e_un n_182_12) := u_ldAT f_l0_eq (s_aload (i := .aload_n 0) (len := 1) hq_182 (by decide +kernel) rfl (.inr ⟨0, rfl, rfl, rfl⟩) : e_Sn 182 12 (o_load e_okR 0 13)) t_182_13
noncomputable def n_182_11 : e_Y := u_retI
theorem t_182_11 : e_Sn 182 11 (e_un n_182_11) := u_retIT (s_iret hq_182 hr_182 (by decide +kernel) : e_Sn 182 11 (o_ret e_okI))
noncomputable def n_182_8 : e_Y := u_getf 13 8 (u_old (o_getf (e_f1 13 8) 11) n_182_11) n_182_11
theorem t_182_8 : e_Sn 182 8 (e_un n_182_8) := u_getfT (s_getf (C := er_13) (T := et_13) (N := 13) (ref := "PlateroomprinterModel$Machine") (index := 181) (ci := 13) (k := 8) hq_182 ho_182 ⟨rfl, by decide, ei_13, (List.mem_of_getElem? (i := 1915) (by decide +kernel)), .inl rfl⟩ (by decide +kernel) rfl : e_Sn 182 8 (o_getf (e_f1 13 8) 11)) t_182_11
noncomputable def n_182_5 : e_Y := u_getf 12 1 (u_old (o_getf (e_f1 12 1) 8) n_182_8) n_182_8
theorem t_182_5 : e_Sn 182 5 (e_un n_182_5) := u_getfT (s_getf (C := er_12) (T := et_12) (N := 5) (ref := "PlateroomprinterModel") (index := 10) (ci := 12) (k := 1) hq_182 ho_182 ⟨rfl, by decide, ei_12, (List.mem_of_getElem? (i := 1959) (by decide +kernel)), .inl rfl⟩ (by decide +kernel) rfl : e_Sn 182 5 (o_getf (e_f1 12 1) 8)) t_182_8
noncomputable def n_182_4 : e_Y := u_ld f_okA f_l0 n_182_5
theorem t_182_4 : e_Sn 182 4 (e_un n_182_4) := u_ldAT f_l0_eq (s_aload (i := .aload_n 0) (len := 1) hq_182 (by decide +kernel) rfl (.inr ⟨0, rfl, rfl, rfl⟩) : e_Sn 182 4 (o_load e_okR 0 5)) t_182_5
noncomputable def n_182_1 : e_Y := u_if y_ne0 (u_old2 (o_ifeq 4 12) 4 n_182_4 n_182_12) n_182_4 n_182_12
theorem t_182_1 : e_Sn 182 1 (e_un n_182_1) := u_ifeqT rfl (s_ifne (off := (11)) hq_182 (by decide +kernel) rfl rfl : e_Sn 182 1 (o_ifeq 4 12)) t_182_4 t_182_12
noncomputable def n_182_0 : e_Y := u_ld f_okI f_l1 n_182_1
theorem t_182_0 : e_Sn 182 0 (e_un n_182_0) := u_ldIT f_l1_eq (s_iload (i := .iload_n 1) (len := 1) hq_182 (by decide +kernel) rfl (.inr ⟨1, rfl, rfl, rfl⟩) : e_Sn 182 0 (o_load e_okI 1 1)) t_182_1
noncomputable def e_tb_182 : e_X := (e_br 22 (e_lf 0 (e_un n_182_0)) (e_lf 22 (e_un n_182_22)))
theorem e_tk_182 : e_Tb 182 e_tb_182 := (e_brT (e_lfT t_182_0) (e_lfT t_182_22))
theorem hq_190 : (e_ml[190]?).map (·.2.1) = some prog_14_method_70_code := rfl
theorem ho_190 : (e_ml[190]?).map (·.1.cls) = some "PlateroomprinterModel" := rfl
theorem hr_190 : (e_ml[190]?).map (·.2.2.2) = some (some .int) := rfl
noncomputable def n_190_51 : e_Y := u_retI
theorem t_190_51 : e_Sn 190 51 (e_un n_190_51) := u_retIT (s_iret hq_190 hr_190 (by decide +kernel) : e_Sn 190 51 (o_ret e_okI))
noncomputable def n_190_50 : e_Y := u_ld f_okI f_l3 n_190_51
theorem t_190_50 : e_Sn 190 50 (e_un n_190_50) := u_ldIT f_l3_eq (s_iload (i := .iload_n 3) (len := 1) hq_190 (by decide +kernel) rfl (.inr ⟨3, rfl, rfl, rfl⟩) : e_Sn 190 50 (o_load e_okI 3 51)) t_190_51
noncomputable def n_190_47 : e_Y := (u_at 5)
theorem t_190_47 : e_Sn 190 47 (e_un n_190_47) := u_gotoT (s_goto (off := (-42)) hq_190 (by decide +kernel) rfl : e_Sn 190 47 (o_goto 5)) u_atT
noncomputable def n_190_44 : e_Y := u_inc f_l4 f_s4 1 n_190_47
theorem t_190_44 : e_Sn 190 44 (e_un n_190_44) := u_incT f_l4_eq (fun _ _ _ => f_s4_eq) (s_iinc (zz := (1)) hq_190 (by decide +kernel) rfl (by decide +kernel) ⟨by decide, by decide⟩ : e_Sn 190 44 (o_iinc 4 1 47)) t_190_47
noncomputable def n_190_43 : e_Y := u_st f_okI f_s3 n_190_44
theorem t_190_43 : e_Sn 190 43 (e_un n_190_43) := u_stIT (fun _ _ _ => f_s3_eq) (s_istore (i := .istore_n 3) (len := 1) hq_190 (by decide +kernel) rfl (.inr ⟨3, rfl, rfl, rfl⟩) : e_Sn 190 43 (o_store e_okI 3 44)) t_190_44
noncomputable def n_190_42 : e_Y := u_bin a_ior (u_old (o_bin Nat.lor 43) n_190_43) n_190_43
theorem t_190_42 : e_Sn 190 42 (e_un n_190_42) := u_iorT (s_ior hq_190 (by decide +kernel) rfl : e_Sn 190 42 (o_bin Nat.lor 43)) t_190_43
noncomputable def n_190_41 : e_Y := u_bin a_ishl (u_old (o_ishl 42) n_190_42) n_190_42
theorem t_190_41 : e_Sn 190 41 (e_un n_190_41) := u_ishlT (s_ishl hq_190 (by decide +kernel) rfl : e_Sn 190 41 (o_ishl 42)) t_190_42
noncomputable def n_190_39 : e_Y := u_ld f_okI f_l4 n_190_41
theorem t_190_39 : e_Sn 190 39 (e_un n_190_39) := u_ldIT f_l4_eq (s_iload (i := .iload 4) (len := 2) hq_190 (by decide +kernel) rfl (.inl ⟨rfl, rfl⟩) : e_Sn 190 39 (o_load e_okI 4 41)) t_190_41
noncomputable def n_190_36 : e_Y := u_callS 180 1 20 1 n_180_0 n_190_39
theorem t_190_36 : e_Sn 190 36 (e_un n_190_36) := u_callST rfl (s_callS (index := 107) hq_190 ho_190 hy_180 hp_180 hc_180 hi_180 hd_180 (List.mem_of_getElem? (i := 2482) (by decide +kernel)) hs_180 (by decide +kernel) rfl : e_Sn 190 36 (o_callS 180 1 1 39)) t_180_0 t_190_39
noncomputable def n_190_35 : e_Y := u_ald 1 (u_old (o_aldO 1 36) n_190_36) n_190_36
theorem t_190_35 : e_Sn 190 35 (e_un n_190_35) := u_aldOT (s_zald hq_190 (by decide +kernel) rfl : e_Sn 190 35 (o_aldO 1 36)) t_190_36
noncomputable def n_190_34 : e_Y := u_bin a_iadd (u_old (o_iadd 35) n_190_35) n_190_35
theorem t_190_34 : e_Sn 190 34 (e_un n_190_34) := u_iaddT (s_iadd hq_190 (by decide +kernel) rfl : e_Sn 190 34 (o_iadd 35)) t_190_35
noncomputable def n_190_32 : e_Y := u_ld f_okI f_l4 n_190_34
theorem t_190_32 : e_Sn 190 32 (e_un n_190_32) := u_ldIT f_l4_eq (s_iload (i := .iload 4) (len := 2) hq_190 (by decide +kernel) rfl (.inl ⟨rfl, rfl⟩) : e_Sn 190 32 (o_load e_okI 4 34)) t_190_34
noncomputable def n_190_31 : e_Y := u_bin a_iadd (u_old (o_iadd 32) n_190_32) n_190_32
theorem t_190_31 : e_Sn 190 31 (e_un n_190_31) := u_iaddT (s_iadd hq_190 (by decide +kernel) rfl : e_Sn 190 31 (o_iadd 32)) t_190_32
noncomputable def n_190_30 : e_Y := u_bin a_imul (u_old (o_imul 31) n_190_31) n_190_31
theorem t_190_30 : e_Sn 190 30 (e_un n_190_30) := u_imulT (s_imul hq_190 (by decide +kernel) rfl : e_Sn 190 30 (o_imul 31)) t_190_31
noncomputable def n_190_28 : e_Y := u_push (.inl 2147483680) n_190_30
theorem t_190_28 : e_Sn 190 28 (e_un n_190_28) := u_pushT (s_bipush (n := (32)) hq_190 (by decide +kernel) rfl ⟨by decide +kernel, by decide +kernel⟩ : e_Sn 190 28 (o_push (.inl 2147483680) 30)) t_190_30
noncomputable def n_190_27 : e_Y := u_ld f_okI f_l2 n_190_28
theorem t_190_27 : e_Sn 190 27 (e_un n_190_27) := u_ldIT f_l2_eq (s_iload (i := .iload_n 2) (len := 1) hq_190 (by decide +kernel) rfl (.inr ⟨2, rfl, rfl, rfl⟩) : e_Sn 190 27 (o_load e_okI 2 28)) t_190_28
noncomputable def n_190_26 : e_Y := u_bin a_imul (u_old (o_imul 27) n_190_27) n_190_27
theorem t_190_26 : e_Sn 190 26 (e_un n_190_26) := u_imulT (s_imul hq_190 (by decide +kernel) rfl : e_Sn 190 26 (o_imul 27)) t_190_27
noncomputable def n_190_24 : e_Y := u_push (.inl 2147483680) n_190_26
theorem t_190_24 : e_Sn 190 24 (e_un n_190_24) := u_pushT (s_bipush (n := (32)) hq_190 (by decide +kernel) rfl ⟨by decide +kernel, by decide +kernel⟩ : e_Sn 190 24 (o_push (.inl 2147483680) 26)) t_190_26
noncomputable def n_190_23 : e_Y := u_bin a_imul (u_old (o_imul 24) n_190_24) n_190_24
theorem t_190_23 : e_Sn 190 23 (e_un n_190_23) := u_imulT (s_imul hq_190 (by decide +kernel) rfl : e_Sn 190 23 (o_imul 24)) t_190_24
noncomputable def n_190_21 : e_Y := u_push (.inl 2147483680) n_190_23
theorem t_190_21 : e_Sn 190 21 (e_un n_190_21) := u_pushT (s_bipush (n := (32)) hq_190 (by decide +kernel) rfl ⟨by decide +kernel, by decide +kernel⟩ : e_Sn 190 21 (o_push (.inl 2147483680) 23)) t_190_23
noncomputable def n_190_20 : e_Y := u_ld f_okI f_l1 n_190_21
theorem t_190_20 : e_Sn 190 20 (e_un n_190_20) := u_ldIT f_l1_eq (s_iload (i := .iload_n 1) (len := 1) hq_190 (by decide +kernel) rfl (.inr ⟨1, rfl, rfl, rfl⟩) : e_Sn 190 20 (o_load e_okI 1 21)) t_190_21
noncomputable def n_190_17 : e_Y := u_getf 13 6 (u_old (o_getf (e_f1 13 6) 20) n_190_20) n_190_20
theorem t_190_17 : e_Sn 190 17 (e_un n_190_17) := u_getfT (s_getf (C := er_13) (T := et_13) (N := 13) (ref := "PlateroomprinterModel$Machine") (index := 324) (ci := 13) (k := 6) hq_190 ho_190 ⟨rfl, by decide, ei_13, (List.mem_of_getElem? (i := 1910) (by decide +kernel)), .inl rfl⟩ (by decide +kernel) rfl : e_Sn 190 17 (o_getf (e_f1 13 6) 20)) t_190_20
noncomputable def n_190_14 : e_Y := u_getf 12 1 (u_old (o_getf (e_f1 12 1) 17) n_190_17) n_190_17
theorem t_190_14 : e_Sn 190 14 (e_un n_190_14) := u_getfT (s_getf (C := er_12) (T := et_12) (N := 5) (ref := "PlateroomprinterModel") (index := 10) (ci := 12) (k := 1) hq_190 ho_190 ⟨rfl, by decide, ei_12, (List.mem_of_getElem? (i := 1959) (by decide +kernel)), .inl rfl⟩ (by decide +kernel) rfl : e_Sn 190 14 (o_getf (e_f1 12 1) 17)) t_190_17
noncomputable def n_190_13 : e_Y := u_ld f_okA f_l0 n_190_14
theorem t_190_13 : e_Sn 190 13 (e_un n_190_13) := u_ldAT f_l0_eq (s_aload (i := .aload_n 0) (len := 1) hq_190 (by decide +kernel) rfl (.inr ⟨0, rfl, rfl, rfl⟩) : e_Sn 190 13 (o_load e_okR 0 14)) t_190_14
noncomputable def n_190_12 : e_Y := u_ld f_okI f_l3 n_190_13
theorem t_190_12 : e_Sn 190 12 (e_un n_190_12) := u_ldIT f_l3_eq (s_iload (i := .iload_n 3) (len := 1) hq_190 (by decide +kernel) rfl (.inr ⟨3, rfl, rfl, rfl⟩) : e_Sn 190 12 (o_load e_okI 3 13)) t_190_13
noncomputable def n_190_9 : e_Y := u_jmp y_ge (u_old2 (o_clt 12 50) 12 n_190_12 n_190_50) n_190_12 n_190_50
theorem t_190_9 : e_Sn 190 9 (e_un n_190_9) := u_cltT rfl (s_cge (off := (41)) hq_190 (by decide +kernel) rfl rfl : e_Sn 190 9 (o_clt 12 50)) t_190_12 t_190_50
noncomputable def n_190_7 : e_Y := u_push (.inl 2147483680) n_190_9
theorem t_190_7 : e_Sn 190 7 (e_un n_190_7) := u_pushT (s_bipush (n := (32)) hq_190 (by decide +kernel) rfl ⟨by decide +kernel, by decide +kernel⟩ : e_Sn 190 7 (o_push (.inl 2147483680) 9)) t_190_9
noncomputable def n_190_5 : e_Y := u_ld f_okI f_l4 n_190_7
theorem t_190_5 : e_Sn 190 5 (e_un n_190_5) := u_ldIT f_l4_eq (s_iload (i := .iload 4) (len := 2) hq_190 (by decide +kernel) rfl (.inl ⟨rfl, rfl⟩) : e_Sn 190 5 (o_load e_okI 4 7)) t_190_7
noncomputable def n_190_3 : e_Y := u_st f_okI f_s4 n_190_5
theorem t_190_3 : e_Sn 190 3 (e_un n_190_3) := u_stIT (fun _ _ _ => f_s4_eq) (s_istore (i := .istore 4) (len := 2) hq_190 (by decide +kernel) rfl (.inl ⟨rfl, rfl⟩) : e_Sn 190 3 (o_store e_okI 4 5)) t_190_5
noncomputable def n_190_2 : e_Y := u_push (.inl 2147483648) n_190_3
theorem t_190_2 : e_Sn 190 2 (e_un n_190_2) := u_pushT (s_iconst (n := (0)) hq_190 (by decide +kernel) rfl ⟨by decide +kernel, by decide +kernel⟩ : e_Sn 190 2 (o_push (.inl 2147483648) 3)) t_190_3
noncomputable def n_190_1 : e_Y := u_st f_okI f_s3 n_190_2
theorem t_190_1 : e_Sn 190 1 (e_un n_190_1) := u_stIT (fun _ _ _ => f_s3_eq) (s_istore (i := .istore_n 3) (len := 1) hq_190 (by decide +kernel) rfl (.inr ⟨3, rfl, rfl, rfl⟩) : e_Sn 190 1 (o_store e_okI 3 2)) t_190_2
noncomputable def n_190_0 : e_Y := u_push (.inl 2147483648) n_190_1
theorem t_190_0 : e_Sn 190 0 (e_un n_190_0) := u_pushT (s_iconst (n := (0)) hq_190 (by decide +kernel) rfl ⟨by decide +kernel, by decide +kernel⟩ : e_Sn 190 0 (o_push (.inl 2147483648) 1)) t_190_1
noncomputable def e_tb_190 : e_X := (e_br 5 (e_lf 0 (e_un n_190_0)) (e_lf 5 (e_un n_190_5)))
theorem e_tk_190 : e_Tb 190 e_tb_190 := (e_brT (e_lfT t_190_0) (e_lfT t_190_5))
theorem hq_217 : (e_ml[217]?).map (·.2.1) = some prog_33_method_22_code := rfl
theorem ho_217 : (e_ml[217]?).map (·.1.cls) = some "java/lang/Integer" := rfl
theorem hr_217 : (e_ml[217]?).map (·.2.2.2) = some (some (.object "java/lang/Integer")) := rfl
noncomputable def n_217_22 : e_Y := u_retA
theorem t_217_22 : e_Sn 217 22 (e_un n_217_22) := u_retAT (s_aret (.inl ⟨_, rfl⟩) hq_217 hr_217 (by decide +kernel) : e_Sn 217 22 (o_ret e_okR))
noncomputable def n_217_21 : e_Y := u_tab (o_aldB 22)
theorem t_217_21 : e_Sn 217 21 (e_un n_217_21) := u_tabT (s_aldB hq_217 (by decide +kernel) rfl : e_Sn 217 21 (o_aldB 22))
noncomputable def n_217_20 : e_Y := u_bin a_iadd (u_old (o_iadd 21) n_217_21) n_217_21
theorem t_217_20 : e_Sn 217 20 (e_un n_217_20) := u_iaddT (s_iadd hq_217 (by decide +kernel) rfl : e_Sn 217 20 (o_iadd 21)) t_217_21
noncomputable def n_217_17 : e_Y := u_push (.inl 2147483776) n_217_20
theorem t_217_17 : e_Sn 217 17 (e_un n_217_17) := u_pushT (s_sipush (n := (128)) hq_217 (by decide +kernel) rfl ⟨by decide +kernel, by decide +kernel⟩ : e_Sn 217 17 (o_push (.inl 2147483776) 20)) t_217_20
noncomputable def n_217_16 : e_Y := u_ld f_okI f_l0 n_217_17
theorem t_217_16 : e_Sn 217 16 (e_un n_217_16) := u_ldIT f_l0_eq (s_iload (i := .iload_n 0) (len := 1) hq_217 (by decide +kernel) rfl (.inr ⟨0, rfl, rfl, rfl⟩) : e_Sn 217 16 (o_load e_okI 0 17)) t_217_17
noncomputable def n_217_13 : e_Y := u_push (e_B 260) n_217_16
theorem t_217_13 : e_Sn 217 13 (e_un n_217_13) := u_pushT (s_gets (k := 260) (index := 195) (C := "java/lang/Integer$IntegerCache") (f := "cache") (d := "[Ljava/lang/Integer;") hq_217 ho_217 (List.mem_of_getElem? (i := 3102) (by decide +kernel)) (by simp [e_sv]) (by decide +kernel) rfl : e_Sn 217 13 (o_push (e_B 260) 16)) t_217_16
noncomputable def n_217_10 : e_Y := u_jmp y_le (u_old2 (o_cgt 23 13) 23 (u_at 23) n_217_13) (u_at 23) n_217_13
theorem t_217_10 : e_Sn 217 10 (e_un n_217_10) := u_cgtT rfl (s_cgt (off := (13)) hq_217 (by decide +kernel) rfl rfl : e_Sn 217 10 (o_cgt 23 13)) u_atT t_217_13
noncomputable def n_217_7 : e_Y := u_push (e_I 2147483775) n_217_10
theorem t_217_7 : e_Sn 217 7 (e_un n_217_7) := u_pushT (s_getsH (index := 191) hq_217 ho_217 (List.mem_of_getElem? (i := 3100) (by decide +kernel)) (by decide +kernel) rfl : e_Sn 217 7 (o_push (e_I 2147483775) 10)) t_217_10
noncomputable def n_217_6 : e_Y := u_ld f_okI f_l0 n_217_7
theorem t_217_6 : e_Sn 217 6 (e_un n_217_6) := u_ldIT f_l0_eq (s_iload (i := .iload_n 0) (len := 1) hq_217 (by decide +kernel) rfl (.inr ⟨0, rfl, rfl, rfl⟩) : e_Sn 217 6 (o_load e_okI 0 7)) t_217_7
noncomputable def n_217_3 : e_Y := u_jmp y_ge (u_old2 (o_clt 23 6) 23 (u_at 23) n_217_6) (u_at 23) n_217_6
theorem t_217_3 : e_Sn 217 3 (e_un n_217_3) := u_cltT rfl (s_clt (off := (20)) hq_217 (by decide +kernel) rfl rfl : e_Sn 217 3 (o_clt 23 6)) u_atT t_217_6
noncomputable def n_217_1 : e_Y := u_push (.inl 2147483520) n_217_3
theorem t_217_1 : e_Sn 217 1 (e_un n_217_1) := u_pushT (s_bipush (n := (-128)) hq_217 (by decide +kernel) rfl ⟨by decide +kernel, by decide +kernel⟩ : e_Sn 217 1 (o_push (.inl 2147483520) 3)) t_217_3
noncomputable def n_217_0 : e_Y := u_ld f_okI f_l0 n_217_1
theorem t_217_0 : e_Sn 217 0 (e_un n_217_0) := u_ldIT f_l0_eq (s_iload (i := .iload_n 0) (len := 1) hq_217 (by decide +kernel) rfl (.inr ⟨0, rfl, rfl, rfl⟩) : e_Sn 217 0 (o_load e_okI 0 1)) t_217_1
noncomputable def e_tb_217 : e_X := (e_br 22 (e_lf 0 (e_un n_217_0)) (e_lf 22 (e_un n_217_22)))
theorem e_tk_217 : e_Tb 217 e_tb_217 := (e_brT (e_lfT t_217_0) (e_lfT t_217_22))
theorem hq_194 : (e_ml[194]?).map (·.2.1) = some prog_14_method_76_code := rfl
theorem ho_194 : (e_ml[194]?).map (·.1.cls) = some "PlateroomprinterModel" := rfl
theorem hr_194 : (e_ml[194]?).map (·.2.2.2) = some (some (.object "java/util/ArrayList")) := rfl
noncomputable def n_194_119 : e_Y := u_retA
theorem t_194_119 : e_Sn 194 119 (e_un n_194_119) := u_retAT (s_aret (.inl ⟨_, rfl⟩) hq_194 hr_194 (by decide +kernel) : e_Sn 194 119 (o_ret e_okR))
noncomputable def n_194_118 : e_Y := u_ld f_okA f_l2 n_194_119
theorem t_194_118 : e_Sn 194 118 (e_un n_194_118) := u_ldAT f_l2_eq (s_aload (i := .aload_n 2) (len := 1) hq_194 (by decide +kernel) rfl (.inr ⟨2, rfl, rfl, rfl⟩) : e_Sn 194 118 (o_load e_okR 2 119)) t_194_119
noncomputable def n_194_115 : e_Y := (u_at 13)
theorem t_194_115 : e_Sn 194 115 (e_un n_194_115) := u_gotoT (s_goto (off := (-102)) hq_194 (by decide +kernel) rfl : e_Sn 194 115 (o_goto 13)) u_atT
noncomputable def n_194_113 : e_Y := u_st f_okI f_s4 n_194_115
theorem t_194_113 : e_Sn 194 113 (e_un n_194_113) := u_stIT (fun _ _ _ => f_s4_eq) (s_istore (i := .istore 4) (len := 2) hq_194 (by decide +kernel) rfl (.inl ⟨rfl, rfl⟩) : e_Sn 194 113 (o_store e_okI 4 115)) t_194_115
noncomputable def n_194_109 : e_Y := n_194_113
theorem t_194_109 : e_Sn 194 109 (e_un n_194_109) := u_gotoT (s_goto (off := (4)) hq_194 (by decide +kernel) rfl : e_Sn 194 109 (o_goto 113)) t_194_113
noncomputable def n_194_108 : e_Y := u_push (.inl 2147483649) n_194_109
theorem t_194_108 : e_Sn 194 108 (e_un n_194_108) := u_pushT (s_iconst (n := (1)) hq_194 (by decide +kernel) rfl ⟨by decide +kernel, by decide +kernel⟩ : e_Sn 194 108 (o_push (.inl 2147483649) 109)) t_194_109
noncomputable def n_194_105 : e_Y := u_if y_ne0 (u_old2 (o_ifeq 108 112) 108 n_194_108 (u_at 112)) n_194_108 (u_at 112)
theorem t_194_105 : e_Sn 194 105 (e_un n_194_105) := u_ifeqT rfl (s_ifne (off := (7)) hq_194 (by decide +kernel) rfl rfl : e_Sn 194 105 (o_ifeq 108 112)) t_194_108 u_atT
noncomputable def n_194_103 : e_Y := u_ld f_okI f_l4 n_194_105
theorem t_194_103 : e_Sn 194 103 (e_un n_194_103) := u_ldIT f_l4_eq (s_iload (i := .iload 4) (len := 2) hq_194 (by decide +kernel) rfl (.inl ⟨rfl, rfl⟩) : e_Sn 194 103 (o_load e_okI 4 105)) t_194_105
noncomputable def n_194_102 : e_Y := u_pop n_194_103
theorem t_194_102 : e_Sn 194 102 (e_un n_194_102) := u_popT (s_pop hq_194 (by decide +kernel) rfl : e_Sn 194 102 (o_pop 103)) t_194_103
noncomputable def n_194_99 : e_Y := u_callV 19 225 2 21 2 n_225_0 n_194_102
theorem t_194_99 : e_Sn 194 99 (e_un n_194_99) := u_callVT rfl (s_callV (ci := 19) (C := er_19) (T := et_19) (N := 3) (index := 88) hq_194 ho_194 hy_225 hp_225 hc_225 hi_225 hd_225 (List.mem_of_getElem? (i := 2004) (by decide +kernel)) hs_225 (List.mem_of_getElem? (i := 1822) (by decide +kernel)) rfl (by decide +kernel) rfl : e_Sn 194 99 (o_callV (e_s1 19 225 2) 2 102)) t_225_0 t_194_102
noncomputable def n_194_96 : e_Y := u_callS 217 1 20 1 n_217_0 n_194_99
theorem t_194_96 : e_Sn 194 96 (e_un n_194_96) := u_callST rfl (s_callS (index := 351) hq_194 ho_194 hy_217 hp_217 hc_217 hi_217 hd_217 (List.mem_of_getElem? (i := 3097) (by decide +kernel)) hs_217 (by decide +kernel) rfl : e_Sn 194 96 (o_callS 217 1 1 99)) t_217_0 t_194_99
noncomputable def n_194_94 : e_Y := u_ld f_okI f_l5 n_194_96
theorem t_194_94 : e_Sn 194 94 (e_un n_194_94) := u_ldIT f_l5_eq (s_iload (i := .iload 5) (len := 2) hq_194 (by decide +kernel) rfl (.inl ⟨rfl, rfl⟩) : e_Sn 194 94 (o_load e_okI 5 96)) t_194_96
noncomputable def n_194_93 : e_Y := u_ld f_okA f_l2 n_194_94
theorem t_194_93 : e_Sn 194 93 (e_un n_194_93) := u_ldAT f_l2_eq (s_aload (i := .aload_n 2) (len := 1) hq_194 (by decide +kernel) rfl (.inr ⟨2, rfl, rfl, rfl⟩) : e_Sn 194 93 (o_load e_okR 2 94)) t_194_94
noncomputable def n_194_90 : e_Y := (u_at 61)
theorem t_194_90 : e_Sn 194 90 (e_un n_194_90) := u_gotoT (s_goto (off := (-29)) hq_194 (by decide +kernel) rfl : e_Sn 194 90 (o_goto 61)) u_atT
noncomputable def n_194_87 : e_Y := u_inc f_l5 f_s5 4294967197 n_194_90
theorem t_194_87 : e_Sn 194 87 (e_un n_194_87) := u_incT f_l5_eq (fun _ _ _ => f_s5_eq) (s_iinc (zz := (-99)) hq_194 (by decide +kernel) rfl (by decide +kernel) ⟨by decide, by decide⟩ : e_Sn 194 87 (o_iinc 5 4294967197 90)) t_194_90
noncomputable def n_194_86 : e_Y := u_pop n_194_87
theorem t_194_86 : e_Sn 194 86 (e_un n_194_86) := u_popT (s_pop hq_194 (by decide +kernel) rfl : e_Sn 194 86 (o_pop 87)) t_194_87
noncomputable def n_194_83 : e_Y := u_callV 19 225 2 21 2 n_225_0 n_194_86
theorem t_194_83 : e_Sn 194 83 (e_un n_194_83) := u_callVT rfl (s_callV (ci := 19) (C := er_19) (T := et_19) (N := 3) (index := 88) hq_194 ho_194 hy_225 hp_225 hc_225 hi_225 hd_225 (List.mem_of_getElem? (i := 2004) (by decide +kernel)) hs_225 (List.mem_of_getElem? (i := 1822) (by decide +kernel)) rfl (by decide +kernel) rfl : e_Sn 194 83 (o_callV (e_s1 19 225 2) 2 86)) t_225_0 t_194_86
noncomputable def n_194_80 : e_Y := u_callS 217 1 20 1 n_217_0 n_194_83
theorem t_194_80 : e_Sn 194 80 (e_un n_194_80) := u_callST rfl (s_callS (index := 351) hq_194 ho_194 hy_217 hp_217 hc_217 hi_217 hd_217 (List.mem_of_getElem? (i := 3097) (by decide +kernel)) hs_217 (by decide +kernel) rfl : e_Sn 194 80 (o_callS 217 1 1 83)) t_217_0 t_194_83
noncomputable def n_194_79 : e_Y := u_push (.inl 2147483648) n_194_80
theorem t_194_79 : e_Sn 194 79 (e_un n_194_79) := u_pushT (s_iconst (n := (0)) hq_194 (by decide +kernel) rfl ⟨by decide +kernel, by decide +kernel⟩ : e_Sn 194 79 (o_push (.inl 2147483648) 80)) t_194_80
noncomputable def n_194_78 : e_Y := u_ld f_okA f_l2 n_194_79
theorem t_194_78 : e_Sn 194 78 (e_un n_194_78) := u_ldAT f_l2_eq (s_aload (i := .aload_n 2) (len := 1) hq_194 (by decide +kernel) rfl (.inr ⟨2, rfl, rfl, rfl⟩) : e_Sn 194 78 (o_load e_okR 2 79)) t_194_79
noncomputable def n_194_77 : e_Y := u_pop n_194_78
theorem t_194_77 : e_Sn 194 77 (e_un n_194_77) := u_popT (s_pop hq_194 (by decide +kernel) rfl : e_Sn 194 77 (o_pop 78)) t_194_78
noncomputable def n_194_74 : e_Y := u_callV 19 225 2 21 2 n_225_0 n_194_77
theorem t_194_74 : e_Sn 194 74 (e_un n_194_74) := u_callVT rfl (s_callV (ci := 19) (C := er_19) (T := et_19) (N := 3) (index := 88) hq_194 ho_194 hy_225 hp_225 hc_225 hi_225 hd_225 (List.mem_of_getElem? (i := 2004) (by decide +kernel)) hs_225 (List.mem_of_getElem? (i := 1822) (by decide +kernel)) rfl (by decide +kernel) rfl : e_Sn 194 74 (o_callV (e_s1 19 225 2) 2 77)) t_225_0 t_194_77
noncomputable def n_194_71 : e_Y := u_callS 217 1 20 1 n_217_0 n_194_74
theorem t_194_71 : e_Sn 194 71 (e_un n_194_71) := u_callST rfl (s_callS (index := 351) hq_194 ho_194 hy_217 hp_217 hc_217 hi_217 hd_217 (List.mem_of_getElem? (i := 3097) (by decide +kernel)) hs_217 (by decide +kernel) rfl : e_Sn 194 71 (o_callS 217 1 1 74)) t_217_0 t_194_74
noncomputable def n_194_69 : e_Y := u_push (.inl 2147483747) n_194_71
theorem t_194_69 : e_Sn 194 69 (e_un n_194_69) := u_pushT (s_bipush (n := (99)) hq_194 (by decide +kernel) rfl ⟨by decide +kernel, by decide +kernel⟩ : e_Sn 194 69 (o_push (.inl 2147483747) 71)) t_194_71
noncomputable def n_194_68 : e_Y := u_ld f_okA f_l2 n_194_69
theorem t_194_68 : e_Sn 194 68 (e_un n_194_68) := u_ldAT f_l2_eq (s_aload (i := .aload_n 2) (len := 1) hq_194 (by decide +kernel) rfl (.inr ⟨2, rfl, rfl, rfl⟩) : e_Sn 194 68 (o_load e_okR 2 69)) t_194_69
noncomputable def n_194_65 : e_Y := u_jmp y_le (u_old2 (o_cgt 68 93) 68 n_194_68 n_194_93) n_194_68 n_194_93
theorem t_194_65 : e_Sn 194 65 (e_un n_194_65) := u_cgtT rfl (s_cle (off := (28)) hq_194 (by decide +kernel) rfl rfl : e_Sn 194 65 (o_cgt 68 93)) t_194_68 t_194_93
noncomputable def n_194_63 : e_Y := u_push (.inl 2147483747) n_194_65
theorem t_194_63 : e_Sn 194 63 (e_un n_194_63) := u_pushT (s_bipush (n := (99)) hq_194 (by decide +kernel) rfl ⟨by decide +kernel, by decide +kernel⟩ : e_Sn 194 63 (o_push (.inl 2147483747) 65)) t_194_65
noncomputable def n_194_61 : e_Y := u_ld f_okI f_l5 n_194_63
theorem t_194_61 : e_Sn 194 61 (e_un n_194_61) := u_ldIT f_l5_eq (s_iload (i := .iload 5) (len := 2) hq_194 (by decide +kernel) rfl (.inl ⟨rfl, rfl⟩) : e_Sn 194 61 (o_load e_okI 5 63)) t_194_63
noncomputable def n_194_58 : e_Y := (u_at 23)
theorem t_194_58 : e_Sn 194 58 (e_un n_194_58) := u_gotoT (s_goto (off := (-35)) hq_194 (by decide +kernel) rfl : e_Sn 194 58 (o_goto 23)) u_atT
noncomputable def n_194_55 : e_Y := u_inc f_l5 f_s5 1 n_194_58
theorem t_194_55 : e_Sn 194 55 (e_un n_194_55) := u_incT f_l5_eq (fun _ _ _ => f_s5_eq) (s_iinc (zz := (1)) hq_194 (by decide +kernel) rfl (by decide +kernel) ⟨by decide, by decide⟩ : e_Sn 194 55 (o_iinc 5 1 58)) t_194_58
noncomputable def n_194_52 : e_Y := u_inc f_l3 f_s3 1 n_194_55
theorem t_194_52 : e_Sn 194 52 (e_un n_194_52) := u_incT f_l3_eq (fun _ _ _ => f_s3_eq) (s_iinc (zz := (1)) hq_194 (by decide +kernel) rfl (by decide +kernel) ⟨by decide, by decide⟩ : e_Sn 194 52 (o_iinc 3 1 55)) t_194_55
noncomputable def n_194_49 : e_Y := u_jmp y_ne (u_old2 (o_ceq 52 61) 52 n_194_52 n_194_61) n_194_52 n_194_61
theorem t_194_49 : e_Sn 194 49 (e_un n_194_49) := u_ceqT rfl (s_cne (off := (12)) hq_194 (by decide +kernel) rfl rfl : e_Sn 194 49 (o_ceq 52 61)) t_194_52 t_194_61
noncomputable def n_194_47 : e_Y := u_ld f_okI f_l4 n_194_49
theorem t_194_47 : e_Sn 194 47 (e_un n_194_47) := u_ldIT f_l4_eq (s_iload (i := .iload 4) (len := 2) hq_194 (by decide +kernel) rfl (.inl ⟨rfl, rfl⟩) : e_Sn 194 47 (o_load e_okI 4 49)) t_194_49
noncomputable def n_194_46 : e_Y := u_ald 1 (u_old (o_aldO 1 47) n_194_47) n_194_47
theorem t_194_46 : e_Sn 194 46 (e_un n_194_46) := u_aldOT (s_zald hq_194 (by decide +kernel) rfl : e_Sn 194 46 (o_aldO 1 47)) t_194_47
noncomputable def n_194_45 : e_Y := u_bin a_iadd (u_old (o_iadd 46) n_194_46) n_194_46
theorem t_194_45 : e_Sn 194 45 (e_un n_194_45) := u_iaddT (s_iadd hq_194 (by decide +kernel) rfl : e_Sn 194 45 (o_iadd 46)) t_194_46
noncomputable def n_194_44 : e_Y := u_ld f_okI f_l3 n_194_45
theorem t_194_44 : e_Sn 194 44 (e_un n_194_44) := u_ldIT f_l3_eq (s_iload (i := .iload_n 3) (len := 1) hq_194 (by decide +kernel) rfl (.inr ⟨3, rfl, rfl, rfl⟩) : e_Sn 194 44 (o_load e_okI 3 45)) t_194_45
noncomputable def n_194_43 : e_Y := u_bin a_imul (u_old (o_imul 44) n_194_44) n_194_44
theorem t_194_43 : e_Sn 194 43 (e_un n_194_43) := u_imulT (s_imul hq_194 (by decide +kernel) rfl : e_Sn 194 43 (o_imul 44)) t_194_44
noncomputable def n_194_41 : e_Y := u_push (.inl 2147483680) n_194_43
theorem t_194_41 : e_Sn 194 41 (e_un n_194_41) := u_pushT (s_bipush (n := (32)) hq_194 (by decide +kernel) rfl ⟨by decide +kernel, by decide +kernel⟩ : e_Sn 194 41 (o_push (.inl 2147483680) 43)) t_194_43
noncomputable def n_194_40 : e_Y := u_bin a_imul (u_old (o_imul 41) n_194_41) n_194_41
theorem t_194_40 : e_Sn 194 40 (e_un n_194_40) := u_imulT (s_imul hq_194 (by decide +kernel) rfl : e_Sn 194 40 (o_imul 41)) t_194_41
noncomputable def n_194_38 : e_Y := u_push (.inl 2147483680) n_194_40
theorem t_194_38 : e_Sn 194 38 (e_un n_194_38) := u_pushT (s_bipush (n := (32)) hq_194 (by decide +kernel) rfl ⟨by decide +kernel, by decide +kernel⟩ : e_Sn 194 38 (o_push (.inl 2147483680) 40)) t_194_40
noncomputable def n_194_37 : e_Y := u_ld f_okI f_l1 n_194_38
theorem t_194_37 : e_Sn 194 37 (e_un n_194_37) := u_ldIT f_l1_eq (s_iload (i := .iload_n 1) (len := 1) hq_194 (by decide +kernel) rfl (.inr ⟨1, rfl, rfl, rfl⟩) : e_Sn 194 37 (o_load e_okI 1 38)) t_194_38
noncomputable def n_194_34 : e_Y := u_getf 13 6 (u_old (o_getf (e_f1 13 6) 37) n_194_37) n_194_37
theorem t_194_34 : e_Sn 194 34 (e_un n_194_34) := u_getfT (s_getf (C := er_13) (T := et_13) (N := 13) (ref := "PlateroomprinterModel$Machine") (index := 324) (ci := 13) (k := 6) hq_194 ho_194 ⟨rfl, by decide, ei_13, (List.mem_of_getElem? (i := 1910) (by decide +kernel)), .inl rfl⟩ (by decide +kernel) rfl : e_Sn 194 34 (o_getf (e_f1 13 6) 37)) t_194_37
noncomputable def n_194_31 : e_Y := u_getf 12 1 (u_old (o_getf (e_f1 12 1) 34) n_194_34) n_194_34
theorem t_194_31 : e_Sn 194 31 (e_un n_194_31) := u_getfT (s_getf (C := er_12) (T := et_12) (N := 5) (ref := "PlateroomprinterModel") (index := 10) (ci := 12) (k := 1) hq_194 ho_194 ⟨rfl, by decide, ei_12, (List.mem_of_getElem? (i := 1959) (by decide +kernel)), .inl rfl⟩ (by decide +kernel) rfl : e_Sn 194 31 (o_getf (e_f1 12 1) 34)) t_194_34
noncomputable def n_194_30 : e_Y := u_ld f_okA f_l0 n_194_31
theorem t_194_30 : e_Sn 194 30 (e_un n_194_30) := u_ldAT f_l0_eq (s_aload (i := .aload_n 0) (len := 1) hq_194 (by decide +kernel) rfl (.inr ⟨0, rfl, rfl, rfl⟩) : e_Sn 194 30 (o_load e_okR 0 31)) t_194_31
noncomputable def n_194_27 : e_Y := u_jmp y_ge (u_old2 (o_clt 30 61) 30 n_194_30 n_194_61) n_194_30 n_194_61
theorem t_194_27 : e_Sn 194 27 (e_un n_194_27) := u_cltT rfl (s_cge (off := (34)) hq_194 (by decide +kernel) rfl rfl : e_Sn 194 27 (o_clt 30 61)) t_194_30 t_194_61
noncomputable def n_194_24 : e_Y := u_push (.inl 2147484672) n_194_27
theorem t_194_24 : e_Sn 194 24 (e_un n_194_24) := u_pushT (s_sipush (n := (1024)) hq_194 (by decide +kernel) rfl ⟨by decide +kernel, by decide +kernel⟩ : e_Sn 194 24 (o_push (.inl 2147484672) 27)) t_194_27
noncomputable def n_194_23 : e_Y := u_ld f_okI f_l3 n_194_24
theorem t_194_23 : e_Sn 194 23 (e_un n_194_23) := u_ldIT f_l3_eq (s_iload (i := .iload_n 3) (len := 1) hq_194 (by decide +kernel) rfl (.inr ⟨3, rfl, rfl, rfl⟩) : e_Sn 194 23 (o_load e_okI 3 24)) t_194_24
noncomputable def n_194_21 : e_Y := u_st f_okI f_s5 n_194_23
theorem t_194_21 : e_Sn 194 21 (e_un n_194_21) := u_stIT (fun _ _ _ => f_s5_eq) (s_istore (i := .istore 5) (len := 2) hq_194 (by decide +kernel) rfl (.inl ⟨rfl, rfl⟩) : e_Sn 194 21 (o_store e_okI 5 23)) t_194_23
noncomputable def n_194_20 : e_Y := u_push (.inl 2147483648) n_194_21
theorem t_194_20 : e_Sn 194 20 (e_un n_194_20) := u_pushT (s_iconst (n := (0)) hq_194 (by decide +kernel) rfl ⟨by decide +kernel, by decide +kernel⟩ : e_Sn 194 20 (o_push (.inl 2147483648) 21)) t_194_21
noncomputable def n_194_17 : e_Y := u_jmp y_ge (u_old2 (o_clt 20 118) 20 n_194_20 n_194_118) n_194_20 n_194_118
theorem t_194_17 : e_Sn 194 17 (e_un n_194_17) := u_cltT rfl (s_cge (off := (101)) hq_194 (by decide +kernel) rfl rfl : e_Sn 194 17 (o_clt 20 118)) t_194_20 t_194_118
noncomputable def n_194_14 : e_Y := u_push (.inl 2147484672) n_194_17
theorem t_194_14 : e_Sn 194 14 (e_un n_194_14) := u_pushT (s_sipush (n := (1024)) hq_194 (by decide +kernel) rfl ⟨by decide +kernel, by decide +kernel⟩ : e_Sn 194 14 (o_push (.inl 2147484672) 17)) t_194_17
noncomputable def n_194_13 : e_Y := u_ld f_okI f_l3 n_194_14
theorem t_194_13 : e_Sn 194 13 (e_un n_194_13) := u_ldIT f_l3_eq (s_iload (i := .iload_n 3) (len := 1) hq_194 (by decide +kernel) rfl (.inr ⟨3, rfl, rfl, rfl⟩) : e_Sn 194 13 (o_load e_okI 3 14)) t_194_14
noncomputable def n_194_11 : e_Y := u_st f_okI f_s4 n_194_13
theorem t_194_11 : e_Sn 194 11 (e_un n_194_11) := u_stIT (fun _ _ _ => f_s4_eq) (s_istore (i := .istore 4) (len := 2) hq_194 (by decide +kernel) rfl (.inl ⟨rfl, rfl⟩) : e_Sn 194 11 (o_store e_okI 4 13)) t_194_13
noncomputable def n_194_10 : e_Y := u_push (.inl 2147483648) n_194_11
theorem t_194_10 : e_Sn 194 10 (e_un n_194_10) := u_pushT (s_iconst (n := (0)) hq_194 (by decide +kernel) rfl ⟨by decide +kernel, by decide +kernel⟩ : e_Sn 194 10 (o_push (.inl 2147483648) 11)) t_194_11
noncomputable def n_194_9 : e_Y := u_st f_okI f_s3 n_194_10
theorem t_194_9 : e_Sn 194 9 (e_un n_194_9) := u_stIT (fun _ _ _ => f_s3_eq) (s_istore (i := .istore_n 3) (len := 1) hq_194 (by decide +kernel) rfl (.inr ⟨3, rfl, rfl, rfl⟩) : e_Sn 194 9 (o_store e_okI 3 10)) t_194_10
noncomputable def n_194_8 : e_Y := u_push (.inl 2147483648) n_194_9
theorem t_194_8 : e_Sn 194 8 (e_un n_194_8) := u_pushT (s_iconst (n := (0)) hq_194 (by decide +kernel) rfl ⟨by decide +kernel, by decide +kernel⟩ : e_Sn 194 8 (o_push (.inl 2147483648) 9)) t_194_9
noncomputable def n_194_7 : e_Y := u_st f_okA f_s2 n_194_8
theorem t_194_7 : e_Sn 194 7 (e_un n_194_7) := u_stAT (fun _ _ _ => f_s2_eq) (s_astore (i := .astore_n 2) (len := 1) hq_194 (by decide +kernel) rfl (.inr ⟨2, rfl, rfl, rfl⟩) : e_Sn 194 7 (o_store e_okR 2 8)) t_194_8
noncomputable def n_194_4 : e_Y := u_tab (o_callI 224 1 1 7)
theorem t_194_4 : e_Sn 194 4 (e_un n_194_4) := u_tabT (s_callI (index := 18) hq_194 ho_194 hy_224 hp_224 hc_224 hi_224 hd_224 (List.mem_of_getElem? (i := 1957) (by decide +kernel)) rfl rfl hs_224 (by decide +kernel) rfl : e_Sn 194 4 (o_callI 224 1 1 7))
noncomputable def n_194_3 : e_Y := u_old (o_dup 4) n_194_4
theorem t_194_3 : e_Sn 194 3 (e_un n_194_3) := u_oldT (s_dup hq_194 (by decide +kernel) rfl : e_Sn 194 3 (o_dup 4)) t_194_4 e_cg_dup
noncomputable def n_194_0 : e_Y := u_tab (o_new 19 3 ef_19 3)
theorem t_194_0 : e_Sn 194 0 (e_un n_194_0) := u_tabT (s_new (index := 16) (ci := 19) (N := 3) (C := er_19) (T := et_19) (ty0 := ey_19) (fv := eg_19) hq_194 ho_194 rfl ei_19 eo_19 (List.mem_of_getElem? (i := 1956) (by decide +kernel)) (List.mem_of_getElem? (i := 1751) (by decide +kernel)) (List.mem_of_getElem? (i := 155) (by decide +kernel)) eh_19 rfl (e_newrel ek_19) (by decide +kernel) rfl : e_Sn 194 0 (o_new 19 3 ef_19 3))
noncomputable def e_tb_194 : e_X := (e_br 13 (e_br 3 (e_lf 0 (e_un n_194_0)) (e_br 7 (e_lf 3 (e_un n_194_3)) (e_lf 7 (e_un n_194_7)))) (e_br 23 (e_lf 13 (e_un n_194_13)) (e_br 61 (e_lf 23 (e_un n_194_23)) (e_lf 61 (e_un n_194_61)))))
theorem e_tk_194 : e_Tb 194 e_tb_194 := (e_brT (e_brT (e_lfT t_194_0) (e_brT (e_lfT t_194_3) (e_lfT t_194_7))) (e_brT (e_lfT t_194_13) (e_brT (e_lfT t_194_23) (e_lfT t_194_61))))
theorem hq_237 : (e_ml[237]?).map (·.2.1) = some prog_51_method_1_code := rfl
theorem ho_237 : (e_ml[237]?).map (·.1.cls) = some "java/util/ArrayList$Itr" := rfl
theorem hr_237 : (e_ml[237]?).map (·.2.2.2) = some none := rfl
noncomputable def n_237_25 : e_Y := u_tab (o_retv)
theorem t_237_25 : e_Sn 237 25 (e_un n_237_25) := u_tabT (s_vret hq_237 hr_237 (by decide +kernel) : e_Sn 237 25 (o_retv))
noncomputable def n_237_22 : e_Y := u_old (o_putf (e_f1 20 2) e_okI 25) n_237_25
theorem t_237_22 : e_Sn 237 22 (e_un n_237_22) := u_oldT (s_putf (ty0 := ey_20) (ok := e_okI) (C := er_20) (T := et_20) (N := 4) (ref := "java/util/ArrayList$Itr") (index := 22) (ci := 20) (k := 2) hq_237 ho_237 ⟨rfl, by decide, ei_20, (List.mem_of_getElem? (i := 2840) (by decide +kernel)), .inl rfl⟩ eo_20 en_20 e_oksI (.inl rfl) (by decide +kernel) rfl : e_Sn 237 22 (o_putf (e_f1 20 2) e_okI 25)) t_237_25 (e_cg_putf (e_f1 20 2) e_okI)
noncomputable def n_237_19 : e_Y := u_getf 19 2 (u_old (o_getf (e_f1 19 2) 22) n_237_22) n_237_22
theorem t_237_19 : e_Sn 237 19 (e_un n_237_19) := u_getfT (s_getf (C := er_19) (T := et_19) (N := 3) (ref := "java/util/ArrayList") (index := 17) (ci := 19) (k := 2) hq_237 ho_237 ⟨rfl, by decide, ei_19, (List.mem_of_getElem? (i := 1769) (by decide +kernel)), .inr (List.mem_of_getElem? (i := 1770) (by decide +kernel))⟩ (by decide +kernel) rfl : e_Sn 237 19 (o_getf (e_f1 19 2) 22)) t_237_22
noncomputable def n_237_16 : e_Y := u_getf 20 3 (u_old (o_getf (e_f1 20 3) 19) n_237_19) n_237_19
theorem t_237_16 : e_Sn 237 16 (e_un n_237_16) := u_getfT (s_getf (C := er_20) (T := et_20) (N := 4) (ref := "java/util/ArrayList$Itr") (index := 1) (ci := 20) (k := 3) hq_237 ho_237 ⟨rfl, by decide, ei_20, (List.mem_of_getElem? (i := 2841) (by decide +kernel)), .inl rfl⟩ (by decide +kernel) rfl : e_Sn 237 16 (o_getf (e_f1 20 3) 19)) t_237_19
noncomputable def n_237_15 : e_Y := u_ld f_okA f_l0 n_237_16
theorem t_237_15 : e_Sn 237 15 (e_un n_237_15) := u_ldAT f_l0_eq (s_aload (i := .aload_n 0) (len := 1) hq_237 (by decide +kernel) rfl (.inr ⟨0, rfl, rfl, rfl⟩) : e_Sn 237 15 (o_load e_okR 0 16)) t_237_16
noncomputable def n_237_14 : e_Y := u_ld f_okA f_l0 n_237_15
theorem t_237_14 : e_Sn 237 14 (e_un n_237_14) := u_ldAT f_l0_eq (s_aload (i := .aload_n 0) (len := 1) hq_237 (by decide +kernel) rfl (.inr ⟨0, rfl, rfl, rfl⟩) : e_Sn 237 14 (o_load e_okR 0 15)) t_237_15
noncomputable def n_237_11 : e_Y := u_old (o_putf (e_f1 20 1) e_okI 14) n_237_14
theorem t_237_11 : e_Sn 237 11 (e_un n_237_11) := u_oldT (s_putf (ty0 := ey_20) (ok := e_okI) (C := er_20) (T := et_20) (N := 4) (ref := "java/util/ArrayList$Itr") (index := 13) (ci := 20) (k := 1) hq_237 ho_237 ⟨rfl, by decide, ei_20, (List.mem_of_getElem? (i := 2839) (by decide +kernel)), .inl rfl⟩ eo_20 en_20 e_oksI (.inl rfl) (by decide +kernel) rfl : e_Sn 237 11 (o_putf (e_f1 20 1) e_okI 14)) t_237_14 (e_cg_putf (e_f1 20 1) e_okI)
noncomputable def n_237_10 : e_Y := u_push (.inl 2147483647) n_237_11
theorem t_237_10 : e_Sn 237 10 (e_un n_237_10) := u_pushT (s_iconst (n := (-1)) hq_237 (by decide +kernel) rfl ⟨by decide +kernel, by decide +kernel⟩ : e_Sn 237 10 (o_push (.inl 2147483647) 11)) t_237_11
noncomputable def n_237_9 : e_Y := u_ld f_okA f_l0 n_237_10
theorem t_237_9 : e_Sn 237 9 (e_un n_237_9) := u_ldAT f_l0_eq (s_aload (i := .aload_n 0) (len := 1) hq_237 (by decide +kernel) rfl (.inr ⟨0, rfl, rfl, rfl⟩) : e_Sn 237 9 (o_load e_okR 0 10)) t_237_10
noncomputable def n_237_6 : e_Y := u_tab (o_oinit 9)
theorem t_237_6 : e_Sn 237 6 (e_un n_237_6) := u_tabT (s_oinit (idx := 7) hq_237 ho_237 (List.mem_of_getElem? (i := 2837) (by decide +kernel)) (List.mem_of_getElem? (i := 190) (by decide +kernel)) (List.mem_of_getElem? (i := 191) (by decide +kernel)) (by decide +kernel) rfl : e_Sn 237 6 (o_oinit 9))
noncomputable def n_237_5 : e_Y := u_ld f_okA f_l0 n_237_6
theorem t_237_5 : e_Sn 237 5 (e_un n_237_5) := u_ldAT f_l0_eq (s_aload (i := .aload_n 0) (len := 1) hq_237 (by decide +kernel) rfl (.inr ⟨0, rfl, rfl, rfl⟩) : e_Sn 237 5 (o_load e_okR 0 6)) t_237_6
noncomputable def n_237_2 : e_Y := u_old (o_putf (e_f1 20 3) e_okR 5) n_237_5
theorem t_237_2 : e_Sn 237 2 (e_un n_237_2) := u_oldT (s_putf (ty0 := ey_20) (ok := e_okR) (C := er_20) (T := et_20) (N := 4) (ref := "java/util/ArrayList$Itr") (index := 1) (ci := 20) (k := 3) hq_237 ho_237 ⟨rfl, by decide, ei_20, (List.mem_of_getElem? (i := 2841) (by decide +kernel)), .inl rfl⟩ eo_20 en_20 e_oksR (.inr ⟨rfl, rfl, rfl⟩) (by decide +kernel) rfl : e_Sn 237 2 (o_putf (e_f1 20 3) e_okR 5)) t_237_5 (e_cg_putf (e_f1 20 3) e_okR)
noncomputable def n_237_1 : e_Y := u_ld f_okA f_l1 n_237_2
theorem t_237_1 : e_Sn 237 1 (e_un n_237_1) := u_ldAT f_l1_eq (s_aload (i := .aload_n 1) (len := 1) hq_237 (by decide +kernel) rfl (.inr ⟨1, rfl, rfl, rfl⟩) : e_Sn 237 1 (o_load e_okR 1 2)) t_237_2
noncomputable def n_237_0 : e_Y := u_ld f_okA f_l0 n_237_1
theorem t_237_0 : e_Sn 237 0 (e_un n_237_0) := u_ldAT f_l0_eq (s_aload (i := .aload_n 0) (len := 1) hq_237 (by decide +kernel) rfl (.inr ⟨0, rfl, rfl, rfl⟩) : e_Sn 237 0 (o_load e_okR 0 1)) t_237_1
noncomputable def e_tb_237 : e_X := (e_br 9 (e_lf 0 (e_un n_237_0)) (e_lf 9 (e_un n_237_9)))
theorem e_tk_237 : e_Tb 237 e_tb_237 := (e_brT (e_lfT t_237_0) (e_lfT t_237_9))
theorem hq_233 : (e_ml[233]?).map (·.2.1) = some prog_50_method_55_code := rfl
theorem ho_233 : (e_ml[233]?).map (·.1.cls) = some "java/util/ArrayList" := rfl
theorem hr_233 : (e_ml[233]?).map (·.2.2.2) = some (some (.object "java/util/Iterator")) := rfl
noncomputable def n_233_8 : e_Y := u_retA
theorem t_233_8 : e_Sn 233 8 (e_un n_233_8) := u_retAT (s_aret (.inl ⟨_, rfl⟩) hq_233 hr_233 (by decide +kernel) : e_Sn 233 8 (o_ret e_okR))
noncomputable def n_233_5 : e_Y := u_tab (o_callI 237 2 2 8)
theorem t_233_5 : e_Sn 233 5 (e_un n_233_5) := u_tabT (s_callI (index := 269) hq_233 ho_233 hy_237 hp_237 hc_237 hi_237 hd_237 (List.mem_of_getElem? (i := 2834) (by decide +kernel)) rfl rfl hs_237 (by decide +kernel) rfl : e_Sn 233 5 (o_callI 237 2 2 8))
noncomputable def n_233_4 : e_Y := u_ld f_okA f_l0 n_233_5
theorem t_233_4 : e_Sn 233 4 (e_un n_233_4) := u_ldAT f_l0_eq (s_aload (i := .aload_n 0) (len := 1) hq_233 (by decide +kernel) rfl (.inr ⟨0, rfl, rfl, rfl⟩) : e_Sn 233 4 (o_load e_okR 0 5)) t_233_5
noncomputable def n_233_3 : e_Y := u_old (o_dup 4) n_233_4
theorem t_233_3 : e_Sn 233 3 (e_un n_233_3) := u_oldT (s_dup hq_233 (by decide +kernel) rfl : e_Sn 233 3 (o_dup 4)) t_233_4 e_cg_dup
noncomputable def n_233_0 : e_Y := u_tab (o_new 20 4 ef_20 3)
theorem t_233_0 : e_Sn 233 0 (e_un n_233_0) := u_tabT (s_new (index := 267) (ci := 20) (N := 4) (C := er_20) (T := et_20) (ty0 := ey_20) (fv := eg_20) hq_233 ho_233 rfl ei_20 eo_20 (List.mem_of_getElem? (i := 2832) (by decide +kernel)) (List.mem_of_getElem? (i := 2833) (by decide +kernel)) (List.mem_of_getElem? (i := 181) (by decide +kernel)) eh_20 rfl (e_newrel ek_20) (by decide +kernel) rfl : e_Sn 233 0 (o_new 20 4 ef_20 3))
noncomputable def e_tb_233 : e_X := (e_br 3 (e_lf 0 (e_un n_233_0)) (e_br 8 (e_lf 3 (e_un n_233_3)) (e_lf 8 (e_un n_233_8))))
theorem e_tk_233 : e_Tb 233 e_tb_233 := (e_brT (e_lfT t_233_0) (e_brT (e_lfT t_233_3) (e_lfT t_233_8)))
end SN
