/-! TABLES, by program -/
section SN
theorem hq_213 : (e_ml[213]?).map (·.2.1) = some prog_21_method_1_code := rfl
theorem ho_213 : (e_ml[213]?).map (·.1.cls) = some "PlateroomprinterModel$State" := rfl
theorem hr_213 : (e_ml[213]?).map (·.2.2.2) = some none := rfl
noncomputable def n_213_157 : e_Y := u_tab (o_retv)
theorem t_213_157 : e_Sn 213 157 (e_un n_213_157) := u_tabT (s_vret hq_213 hr_213 (by decide +kernel) : e_Sn 213 157 (o_retv))
noncomputable def n_213_154 : e_Y := (u_at 135)
theorem t_213_154 : e_Sn 213 154 (e_un n_213_154) := u_gotoT (s_goto (off := (-19)) hq_213 (by decide +kernel) rfl : e_Sn 213 154 (o_goto 135)) u_atT
noncomputable def n_213_151 : e_Y := u_inc f_l1 f_s1 1 n_213_154
theorem t_213_151 : e_Sn 213 151 (e_un n_213_151) := u_incT f_l1_eq (fun _ _ _ => f_s1_eq) (s_iinc (zz := (1)) hq_213 (by decide +kernel) rfl (by decide +kernel) ⟨by decide, by decide⟩ : e_Sn 213 151 (o_iinc 1 1 154)) t_213_154
noncomputable def n_213_150 : e_Y := u_old (o_ast 1 e_okZ 151) n_213_151
theorem t_213_150 : e_Sn 213 150 (e_un n_213_150) := u_oldT (s_zast hq_213 (by decide +kernel) rfl : e_Sn 213 150 (o_ast 1 e_okZ 151)) t_213_151 (e_cg_ast 1 e_okZ)
noncomputable def n_213_149 : e_Y := u_push (.inl 2147483649) n_213_150
theorem t_213_149 : e_Sn 213 149 (e_un n_213_149) := u_pushT (s_iconst (n := (1)) hq_213 (by decide +kernel) rfl ⟨by decide +kernel, by decide +kernel⟩ : e_Sn 213 149 (o_push (.inl 2147483649) 150)) t_213_150
noncomputable def n_213_148 : e_Y := u_ld f_okI f_l1 n_213_149
theorem t_213_148 : e_Sn 213 148 (e_un n_213_148) := u_ldIT f_l1_eq (s_iload (i := .iload_n 1) (len := 1) hq_213 (by decide +kernel) rfl (.inr ⟨1, rfl, rfl, rfl⟩) : e_Sn 213 148 (o_load e_okI 1 149)) t_213_149
noncomputable def n_213_145 : e_Y := u_getf 17 3 (u_old (o_getf (e_f1 17 3) 148) n_213_148) n_213_148
theorem t_213_145 : e_Sn 213 145 (e_un n_213_145) := u_getfT (s_getf (C := er_17) (T := et_17) (N := 6) (ref := "PlateroomprinterModel$State") (index := 22) (ci := 17) (k := 3) hq_213 ho_213 ⟨rfl, by decide, ei_17, (List.mem_of_getElem? (i := 1797) (by decide +kernel)), .inl rfl⟩ (by decide +kernel) rfl : e_Sn 213 145 (o_getf (e_f1 17 3) 148)) t_213_148
noncomputable def n_213_144 : e_Y := u_ld f_okA f_l0 n_213_145
theorem t_213_144 : e_Sn 213 144 (e_un n_213_144) := u_ldAT f_l0_eq (s_aload (i := .aload_n 0) (len := 1) hq_213 (by decide +kernel) rfl (.inr ⟨0, rfl, rfl, rfl⟩) : e_Sn 213 144 (o_load e_okR 0 145)) t_213_145
noncomputable def n_213_141 : e_Y := u_jmp y_ge (u_old2 (o_clt 144 157) 144 n_213_144 n_213_157) n_213_144 n_213_157
theorem t_213_141 : e_Sn 213 141 (e_un n_213_141) := u_cltT rfl (s_cge (off := (16)) hq_213 (by decide +kernel) rfl rfl : e_Sn 213 141 (o_clt 144 157)) t_213_144 t_213_157
noncomputable def n_213_140 : e_Y := u_old (o_alen e_fcs 141) n_213_141
theorem t_213_140 : e_Sn 213 140 (e_un n_213_140) := u_oldT (s_alen hq_213 (by decide +kernel) rfl : e_Sn 213 140 (o_alen e_fcs 141)) t_213_141 (e_cg_alen e_fcs)
noncomputable def n_213_137 : e_Y := u_getf 17 3 (u_old (o_getf (e_f1 17 3) 140) n_213_140) n_213_140
theorem t_213_137 : e_Sn 213 137 (e_un n_213_137) := u_getfT (s_getf (C := er_17) (T := et_17) (N := 6) (ref := "PlateroomprinterModel$State") (index := 22) (ci := 17) (k := 3) hq_213 ho_213 ⟨rfl, by decide, ei_17, (List.mem_of_getElem? (i := 1797) (by decide +kernel)), .inl rfl⟩ (by decide +kernel) rfl : e_Sn 213 137 (o_getf (e_f1 17 3) 140)) t_213_140
noncomputable def n_213_136 : e_Y := u_ld f_okA f_l0 n_213_137
theorem t_213_136 : e_Sn 213 136 (e_un n_213_136) := u_ldAT f_l0_eq (s_aload (i := .aload_n 0) (len := 1) hq_213 (by decide +kernel) rfl (.inr ⟨0, rfl, rfl, rfl⟩) : e_Sn 213 136 (o_load e_okR 0 137)) t_213_137
noncomputable def n_213_135 : e_Y := u_ld f_okI f_l1 n_213_136
theorem t_213_135 : e_Sn 213 135 (e_un n_213_135) := u_ldIT f_l1_eq (s_iload (i := .iload_n 1) (len := 1) hq_213 (by decide +kernel) rfl (.inr ⟨1, rfl, rfl, rfl⟩) : e_Sn 213 135 (o_load e_okI 1 136)) t_213_136
noncomputable def n_213_134 : e_Y := u_st f_okI f_s1 n_213_135
theorem t_213_134 : e_Sn 213 134 (e_un n_213_134) := u_stIT (fun _ _ _ => f_s1_eq) (s_istore (i := .istore_n 1) (len := 1) hq_213 (by decide +kernel) rfl (.inr ⟨1, rfl, rfl, rfl⟩) : e_Sn 213 134 (o_store e_okI 1 135)) t_213_135
noncomputable def n_213_133 : e_Y := u_push (.inl 2147483648) n_213_134
theorem t_213_133 : e_Sn 213 133 (e_un n_213_133) := u_pushT (s_iconst (n := (0)) hq_213 (by decide +kernel) rfl ⟨by decide +kernel, by decide +kernel⟩ : e_Sn 213 133 (o_push (.inl 2147483648) 134)) t_213_134
noncomputable def n_213_130 : e_Y := u_old (o_putf (e_f1 17 5) e_okR 133) n_213_133
theorem t_213_130 : e_Sn 213 130 (e_un n_213_130) := u_oldT (s_putf (ty0 := ey_17) (ok := e_okR) (C := er_17) (T := et_17) (N := 6) (ref := "PlateroomprinterModel$State") (index := 30) (ci := 17) (k := 5) hq_213 ho_213 ⟨rfl, by decide, ei_17, (List.mem_of_getElem? (i := 1803) (by decide +kernel)), .inl rfl⟩ eo_17 en_17 e_oksA (.inl rfl) (by decide +kernel) rfl : e_Sn 213 130 (o_putf (e_f1 17 5) e_okR 133)) t_213_133 (e_cg_putf (e_f1 17 5) e_okR)
noncomputable def n_213_129 : e_Y := u_old (o_ast 0 e_okI 130) n_213_130
theorem t_213_129 : e_Sn 213 129 (e_un n_213_129) := u_oldT (s_iast hq_213 (by decide +kernel) rfl : e_Sn 213 129 (o_ast 0 e_okI 130)) t_213_130 (e_cg_ast 0 e_okI)
noncomputable def n_213_128 : e_Y := u_push (.inl 2147483649) n_213_129
theorem t_213_128 : e_Sn 213 128 (e_un n_213_128) := u_pushT (s_iconst (n := (1)) hq_213 (by decide +kernel) rfl ⟨by decide +kernel, by decide +kernel⟩ : e_Sn 213 128 (o_push (.inl 2147483649) 129)) t_213_129
noncomputable def n_213_127 : e_Y := u_push (.inl 2147483651) n_213_128
theorem t_213_127 : e_Sn 213 127 (e_un n_213_127) := u_pushT (s_iconst (n := (3)) hq_213 (by decide +kernel) rfl ⟨by decide +kernel, by decide +kernel⟩ : e_Sn 213 127 (o_push (.inl 2147483651) 128)) t_213_128
noncomputable def n_213_126 : e_Y := u_old (o_dup 127) n_213_127
theorem t_213_126 : e_Sn 213 126 (e_un n_213_126) := u_oldT (s_dup hq_213 (by decide +kernel) rfl : e_Sn 213 126 (o_dup 127)) t_213_127 e_cg_dup
noncomputable def n_213_125 : e_Y := u_old (o_ast 0 e_okI 126) n_213_126
theorem t_213_125 : e_Sn 213 125 (e_un n_213_125) := u_oldT (s_iast hq_213 (by decide +kernel) rfl : e_Sn 213 125 (o_ast 0 e_okI 126)) t_213_126 (e_cg_ast 0 e_okI)
noncomputable def n_213_124 : e_Y := u_push (.inl 2147483648) n_213_125
theorem t_213_124 : e_Sn 213 124 (e_un n_213_124) := u_pushT (s_iconst (n := (0)) hq_213 (by decide +kernel) rfl ⟨by decide +kernel, by decide +kernel⟩ : e_Sn 213 124 (o_push (.inl 2147483648) 125)) t_213_125
noncomputable def n_213_123 : e_Y := u_push (.inl 2147483650) n_213_124
theorem t_213_123 : e_Sn 213 123 (e_un n_213_123) := u_pushT (s_iconst (n := (2)) hq_213 (by decide +kernel) rfl ⟨by decide +kernel, by decide +kernel⟩ : e_Sn 213 123 (o_push (.inl 2147483650) 124)) t_213_124
noncomputable def n_213_122 : e_Y := u_old (o_dup 123) n_213_123
theorem t_213_122 : e_Sn 213 122 (e_un n_213_122) := u_oldT (s_dup hq_213 (by decide +kernel) rfl : e_Sn 213 122 (o_dup 123)) t_213_123 e_cg_dup
noncomputable def n_213_121 : e_Y := u_old (o_ast 0 e_okI 122) n_213_122
theorem t_213_121 : e_Sn 213 121 (e_un n_213_121) := u_oldT (s_iast hq_213 (by decide +kernel) rfl : e_Sn 213 121 (o_ast 0 e_okI 122)) t_213_122 (e_cg_ast 0 e_okI)
noncomputable def n_213_120 : e_Y := u_push (.inl 2147483648) n_213_121
theorem t_213_120 : e_Sn 213 120 (e_un n_213_120) := u_pushT (s_iconst (n := (0)) hq_213 (by decide +kernel) rfl ⟨by decide +kernel, by decide +kernel⟩ : e_Sn 213 120 (o_push (.inl 2147483648) 121)) t_213_121
noncomputable def n_213_119 : e_Y := u_push (.inl 2147483649) n_213_120
theorem t_213_119 : e_Sn 213 119 (e_un n_213_119) := u_pushT (s_iconst (n := (1)) hq_213 (by decide +kernel) rfl ⟨by decide +kernel, by decide +kernel⟩ : e_Sn 213 119 (o_push (.inl 2147483649) 120)) t_213_120
noncomputable def n_213_118 : e_Y := u_old (o_dup 119) n_213_119
theorem t_213_118 : e_Sn 213 118 (e_un n_213_118) := u_oldT (s_dup hq_213 (by decide +kernel) rfl : e_Sn 213 118 (o_dup 119)) t_213_119 e_cg_dup
noncomputable def n_213_117 : e_Y := u_old (o_ast 0 e_okI 118) n_213_118
theorem t_213_117 : e_Sn 213 117 (e_un n_213_117) := u_oldT (s_iast hq_213 (by decide +kernel) rfl : e_Sn 213 117 (o_ast 0 e_okI 118)) t_213_118 (e_cg_ast 0 e_okI)
noncomputable def n_213_116 : e_Y := u_push (.inl 2147483649) n_213_117
theorem t_213_116 : e_Sn 213 116 (e_un n_213_116) := u_pushT (s_iconst (n := (1)) hq_213 (by decide +kernel) rfl ⟨by decide +kernel, by decide +kernel⟩ : e_Sn 213 116 (o_push (.inl 2147483649) 117)) t_213_117
noncomputable def n_213_115 : e_Y := u_push (.inl 2147483648) n_213_116
theorem t_213_115 : e_Sn 213 115 (e_un n_213_115) := u_pushT (s_iconst (n := (0)) hq_213 (by decide +kernel) rfl ⟨by decide +kernel, by decide +kernel⟩ : e_Sn 213 115 (o_push (.inl 2147483648) 116)) t_213_116
noncomputable def n_213_114 : e_Y := u_old (o_dup 115) n_213_115
theorem t_213_114 : e_Sn 213 114 (e_un n_213_114) := u_oldT (s_dup hq_213 (by decide +kernel) rfl : e_Sn 213 114 (o_dup 115)) t_213_115 e_cg_dup
noncomputable def n_213_112 : e_Y := u_tab (o_newa 0 (e_I 2147483648) 114)
theorem t_213_112 : e_Sn 213 112 (e_un n_213_112) := u_tabT (s_newI (List.mem_of_getElem? (i := 215) (by decide +kernel)) hq_213 (by decide +kernel) rfl : e_Sn 213 112 (o_newa 0 (e_I 2147483648) 114))
noncomputable def n_213_111 : e_Y := u_push (.inl 2147483652) n_213_112
theorem t_213_111 : e_Sn 213 111 (e_un n_213_111) := u_pushT (s_iconst (n := (4)) hq_213 (by decide +kernel) rfl ⟨by decide +kernel, by decide +kernel⟩ : e_Sn 213 111 (o_push (.inl 2147483652) 112)) t_213_112
noncomputable def n_213_110 : e_Y := u_ld f_okA f_l0 n_213_111
theorem t_213_110 : e_Sn 213 110 (e_un n_213_110) := u_ldAT f_l0_eq (s_aload (i := .aload_n 0) (len := 1) hq_213 (by decide +kernel) rfl (.inr ⟨0, rfl, rfl, rfl⟩) : e_Sn 213 110 (o_load e_okR 0 111)) t_213_111
noncomputable def n_213_107 : e_Y := u_old (o_putf (e_f1 17 4) e_okR 110) n_213_110
theorem t_213_107 : e_Sn 213 107 (e_un n_213_107) := u_oldT (s_putf (ty0 := ey_17) (ok := e_okR) (C := er_17) (T := et_17) (N := 6) (ref := "PlateroomprinterModel$State") (index := 26) (ci := 17) (k := 4) hq_213 ho_213 ⟨rfl, by decide, ei_17, (List.mem_of_getElem? (i := 1800) (by decide +kernel)), .inl rfl⟩ eo_17 en_17 e_oksA (.inl rfl) (by decide +kernel) rfl : e_Sn 213 107 (o_putf (e_f1 17 4) e_okR 110)) t_213_110 (e_cg_putf (e_f1 17 4) e_okR)
noncomputable def n_213_106 : e_Y := u_old (o_ast 0 e_okI 107) n_213_107
theorem t_213_106 : e_Sn 213 106 (e_un n_213_106) := u_oldT (s_iast hq_213 (by decide +kernel) rfl : e_Sn 213 106 (o_ast 0 e_okI 107)) t_213_107 (e_cg_ast 0 e_okI)
noncomputable def n_213_104 : e_Y := u_push (.inl 2147483664) n_213_106
theorem t_213_104 : e_Sn 213 104 (e_un n_213_104) := u_pushT (s_bipush (n := (16)) hq_213 (by decide +kernel) rfl ⟨by decide +kernel, by decide +kernel⟩ : e_Sn 213 104 (o_push (.inl 2147483664) 106)) t_213_106
noncomputable def n_213_103 : e_Y := u_push (.inl 2147483651) n_213_104
theorem t_213_103 : e_Sn 213 103 (e_un n_213_103) := u_pushT (s_iconst (n := (3)) hq_213 (by decide +kernel) rfl ⟨by decide +kernel, by decide +kernel⟩ : e_Sn 213 103 (o_push (.inl 2147483651) 104)) t_213_104
noncomputable def n_213_102 : e_Y := u_old (o_dup 103) n_213_103
theorem t_213_102 : e_Sn 213 102 (e_un n_213_102) := u_oldT (s_dup hq_213 (by decide +kernel) rfl : e_Sn 213 102 (o_dup 103)) t_213_103 e_cg_dup
noncomputable def n_213_101 : e_Y := u_old (o_ast 0 e_okI 102) n_213_102
theorem t_213_101 : e_Sn 213 101 (e_un n_213_101) := u_oldT (s_iast hq_213 (by decide +kernel) rfl : e_Sn 213 101 (o_ast 0 e_okI 102)) t_213_102 (e_cg_ast 0 e_okI)
noncomputable def n_213_100 : e_Y := u_push (.inl 2147483648) n_213_101
theorem t_213_100 : e_Sn 213 100 (e_un n_213_100) := u_pushT (s_iconst (n := (0)) hq_213 (by decide +kernel) rfl ⟨by decide +kernel, by decide +kernel⟩ : e_Sn 213 100 (o_push (.inl 2147483648) 101)) t_213_101
noncomputable def n_213_99 : e_Y := u_push (.inl 2147483650) n_213_100
theorem t_213_99 : e_Sn 213 99 (e_un n_213_99) := u_pushT (s_iconst (n := (2)) hq_213 (by decide +kernel) rfl ⟨by decide +kernel, by decide +kernel⟩ : e_Sn 213 99 (o_push (.inl 2147483650) 100)) t_213_100
noncomputable def n_213_98 : e_Y := u_old (o_dup 99) n_213_99
theorem t_213_98 : e_Sn 213 98 (e_un n_213_98) := u_oldT (s_dup hq_213 (by decide +kernel) rfl : e_Sn 213 98 (o_dup 99)) t_213_99 e_cg_dup
noncomputable def n_213_97 : e_Y := u_old (o_ast 0 e_okI 98) n_213_98
theorem t_213_97 : e_Sn 213 97 (e_un n_213_97) := u_oldT (s_iast hq_213 (by decide +kernel) rfl : e_Sn 213 97 (o_ast 0 e_okI 98)) t_213_98 (e_cg_ast 0 e_okI)
noncomputable def n_213_96 : e_Y := u_push (.inl 2147483648) n_213_97
theorem t_213_96 : e_Sn 213 96 (e_un n_213_96) := u_pushT (s_iconst (n := (0)) hq_213 (by decide +kernel) rfl ⟨by decide +kernel, by decide +kernel⟩ : e_Sn 213 96 (o_push (.inl 2147483648) 97)) t_213_97
noncomputable def n_213_95 : e_Y := u_push (.inl 2147483649) n_213_96
theorem t_213_95 : e_Sn 213 95 (e_un n_213_95) := u_pushT (s_iconst (n := (1)) hq_213 (by decide +kernel) rfl ⟨by decide +kernel, by decide +kernel⟩ : e_Sn 213 95 (o_push (.inl 2147483649) 96)) t_213_96
noncomputable def n_213_94 : e_Y := u_old (o_dup 95) n_213_95
theorem t_213_94 : e_Sn 213 94 (e_un n_213_94) := u_oldT (s_dup hq_213 (by decide +kernel) rfl : e_Sn 213 94 (o_dup 95)) t_213_95 e_cg_dup
noncomputable def n_213_93 : e_Y := u_old (o_ast 0 e_okI 94) n_213_94
theorem t_213_93 : e_Sn 213 93 (e_un n_213_93) := u_oldT (s_iast hq_213 (by decide +kernel) rfl : e_Sn 213 93 (o_ast 0 e_okI 94)) t_213_94 (e_cg_ast 0 e_okI)
noncomputable def n_213_92 : e_Y := u_push (.inl 2147483648) n_213_93
theorem t_213_92 : e_Sn 213 92 (e_un n_213_92) := u_pushT (s_iconst (n := (0)) hq_213 (by decide +kernel) rfl ⟨by decide +kernel, by decide +kernel⟩ : e_Sn 213 92 (o_push (.inl 2147483648) 93)) t_213_93
noncomputable def n_213_91 : e_Y := u_push (.inl 2147483648) n_213_92
theorem t_213_91 : e_Sn 213 91 (e_un n_213_91) := u_pushT (s_iconst (n := (0)) hq_213 (by decide +kernel) rfl ⟨by decide +kernel, by decide +kernel⟩ : e_Sn 213 91 (o_push (.inl 2147483648) 92)) t_213_92
noncomputable def n_213_90 : e_Y := u_old (o_dup 91) n_213_91
theorem t_213_90 : e_Sn 213 90 (e_un n_213_90) := u_oldT (s_dup hq_213 (by decide +kernel) rfl : e_Sn 213 90 (o_dup 91)) t_213_91 e_cg_dup
noncomputable def n_213_88 : e_Y := u_tab (o_newa 0 (e_I 2147483648) 90)
theorem t_213_88 : e_Sn 213 88 (e_un n_213_88) := u_tabT (s_newI (List.mem_of_getElem? (i := 215) (by decide +kernel)) hq_213 (by decide +kernel) rfl : e_Sn 213 88 (o_newa 0 (e_I 2147483648) 90))
noncomputable def n_213_87 : e_Y := u_push (.inl 2147483652) n_213_88
theorem t_213_87 : e_Sn 213 87 (e_un n_213_87) := u_pushT (s_iconst (n := (4)) hq_213 (by decide +kernel) rfl ⟨by decide +kernel, by decide +kernel⟩ : e_Sn 213 87 (o_push (.inl 2147483652) 88)) t_213_88
noncomputable def n_213_86 : e_Y := u_ld f_okA f_l0 n_213_87
theorem t_213_86 : e_Sn 213 86 (e_un n_213_86) := u_ldAT f_l0_eq (s_aload (i := .aload_n 0) (len := 1) hq_213 (by decide +kernel) rfl (.inr ⟨0, rfl, rfl, rfl⟩) : e_Sn 213 86 (o_load e_okR 0 87)) t_213_87
noncomputable def n_213_83 : e_Y := u_old (o_putf (e_f1 17 3) e_okR 86) n_213_86
theorem t_213_83 : e_Sn 213 83 (e_un n_213_83) := u_oldT (s_putf (ty0 := ey_17) (ok := e_okR) (C := er_17) (T := et_17) (N := 6) (ref := "PlateroomprinterModel$State") (index := 22) (ci := 17) (k := 3) hq_213 ho_213 ⟨rfl, by decide, ei_17, (List.mem_of_getElem? (i := 1797) (by decide +kernel)), .inl rfl⟩ eo_17 en_17 e_oksA (.inl rfl) (by decide +kernel) rfl : e_Sn 213 83 (o_putf (e_f1 17 3) e_okR 86)) t_213_86 (e_cg_putf (e_f1 17 3) e_okR)
noncomputable def n_213_81 : e_Y := u_tab (o_newa 1 (e_I 2147483648) 83)
theorem t_213_81 : e_Sn 213 81 (e_un n_213_81) := u_tabT (s_newZ (List.mem_of_getElem? (i := 1819) (by decide +kernel)) hq_213 (by decide +kernel) rfl : e_Sn 213 81 (o_newa 1 (e_I 2147483648) 83))
noncomputable def n_213_78 : e_Y := u_push (.inl 2147484672) n_213_81
theorem t_213_78 : e_Sn 213 78 (e_un n_213_78) := u_pushT (s_sipush (n := (1024)) hq_213 (by decide +kernel) rfl ⟨by decide +kernel, by decide +kernel⟩ : e_Sn 213 78 (o_push (.inl 2147484672) 81)) t_213_81
noncomputable def n_213_77 : e_Y := u_ld f_okA f_l0 n_213_78
theorem t_213_77 : e_Sn 213 77 (e_un n_213_77) := u_ldAT f_l0_eq (s_aload (i := .aload_n 0) (len := 1) hq_213 (by decide +kernel) rfl (.inr ⟨0, rfl, rfl, rfl⟩) : e_Sn 213 77 (o_load e_okR 0 78)) t_213_78
noncomputable def n_213_74 : e_Y := u_old (o_putf (e_f1 17 1) e_okR 77) n_213_77
theorem t_213_74 : e_Sn 213 74 (e_un n_213_74) := u_oldT (s_putf (ty0 := ey_17) (ok := e_okR) (C := er_17) (T := et_17) (N := 6) (ref := "PlateroomprinterModel$State") (index := 18) (ci := 17) (k := 1) hq_213 ho_213 ⟨rfl, by decide, ei_17, (List.mem_of_getElem? (i := 1791) (by decide +kernel)), .inl rfl⟩ eo_17 en_17 e_oksR (.inl rfl) (by decide +kernel) rfl : e_Sn 213 74 (o_putf (e_f1 17 1) e_okR 77)) t_213_77 (e_cg_putf (e_f1 17 1) e_okR)
noncomputable def n_213_71 : e_Y := u_tab (o_callI 222 1 1 74)
theorem t_213_71 : e_Sn 213 71 (e_un n_213_71) := u_tabT (s_callI (index := 17) hq_213 ho_213 hy_222 hp_222 hc_222 hi_222 hd_222 (List.mem_of_getElem? (i := 1788) (by decide +kernel)) rfl rfl hs_222 (by decide +kernel) rfl : e_Sn 213 71 (o_callI 222 1 1 74))
noncomputable def n_213_70 : e_Y := u_old (o_dup 71) n_213_71
theorem t_213_70 : e_Sn 213 70 (e_un n_213_70) := u_oldT (s_dup hq_213 (by decide +kernel) rfl : e_Sn 213 70 (o_dup 71)) t_213_71 e_cg_dup
noncomputable def n_213_67 : e_Y := u_tab (o_new 18 3 ef_18 70)
theorem t_213_67 : e_Sn 213 67 (e_un n_213_67) := u_tabT (s_new (index := 15) (ci := 18) (N := 3) (C := er_18) (T := et_18) (ty0 := ey_18) (fv := eg_18) hq_213 ho_213 rfl ei_18 eo_18 (List.mem_of_getElem? (i := 1787) (by decide +kernel)) (List.mem_of_getElem? (i := 1751) (by decide +kernel)) (List.mem_of_getElem? (i := 155) (by decide +kernel)) eh_18 rfl (e_newrel ek_18) (by decide +kernel) rfl : e_Sn 213 67 (o_new 18 3 ef_18 70))
noncomputable def n_213_66 : e_Y := u_ld f_okA f_l0 n_213_67
theorem t_213_66 : e_Sn 213 66 (e_un n_213_66) := u_ldAT f_l0_eq (s_aload (i := .aload_n 0) (len := 1) hq_213 (by decide +kernel) rfl (.inr ⟨0, rfl, rfl, rfl⟩) : e_Sn 213 66 (o_load e_okR 0 67)) t_213_67
noncomputable def n_213_63 : e_Y := u_old (o_putf (e_f1 17 0) e_okR 66) n_213_66
theorem t_213_63 : e_Sn 213 63 (e_un n_213_63) := u_oldT (s_putf (ty0 := ey_17) (ok := e_okR) (C := er_17) (T := et_17) (N := 6) (ref := "PlateroomprinterModel$State") (index := 9) (ci := 17) (k := 0) hq_213 ho_213 ⟨rfl, by decide, ei_17, (List.mem_of_getElem? (i := 1789) (by decide +kernel)), .inl rfl⟩ eo_17 en_17 e_oksA (.inl rfl) (by decide +kernel) rfl : e_Sn 213 63 (o_putf (e_f1 17 0) e_okR 66)) t_213_66 (e_cg_putf (e_f1 17 0) e_okR)
noncomputable def n_213_62 : e_Y := u_old (o_ast 2 e_okL 63) n_213_63
theorem t_213_62 : e_Sn 213 62 (e_un n_213_62) := u_oldT (s_last hq_213 (by decide +kernel) rfl : e_Sn 213 62 (o_ast 2 e_okL 63)) t_213_63 (e_cg_ast 2 e_okL)
noncomputable def n_213_61 : e_Y := u_push (e_L 9223372036854775809) n_213_62
theorem t_213_61 : e_Sn 213 61 (e_un n_213_61) := u_pushT (s_lconst (n := 1) hq_213 (by decide +kernel) rfl ⟨by decide +kernel, by decide +kernel⟩ : e_Sn 213 61 (o_push (e_L 9223372036854775809) 62)) t_213_62
noncomputable def n_213_59 : e_Y := u_push (.inl 2147483659) n_213_61
theorem t_213_59 : e_Sn 213 59 (e_un n_213_59) := u_pushT (s_bipush (n := (11)) hq_213 (by decide +kernel) rfl ⟨by decide +kernel, by decide +kernel⟩ : e_Sn 213 59 (o_push (.inl 2147483659) 61)) t_213_61
noncomputable def n_213_58 : e_Y := u_old (o_dup 59) n_213_59
theorem t_213_58 : e_Sn 213 58 (e_un n_213_58) := u_oldT (s_dup hq_213 (by decide +kernel) rfl : e_Sn 213 58 (o_dup 59)) t_213_59 e_cg_dup
noncomputable def n_213_57 : e_Y := u_old (o_ast 2 e_okL 58) n_213_58
theorem t_213_57 : e_Sn 213 57 (e_un n_213_57) := u_oldT (s_last hq_213 (by decide +kernel) rfl : e_Sn 213 57 (o_ast 2 e_okL 58)) t_213_58 (e_cg_ast 2 e_okL)
noncomputable def n_213_56 : e_Y := u_push (e_L 9223372036854775808) n_213_57
theorem t_213_56 : e_Sn 213 56 (e_un n_213_56) := u_pushT (s_lconst (n := 0) hq_213 (by decide +kernel) rfl ⟨by decide +kernel, by decide +kernel⟩ : e_Sn 213 56 (o_push (e_L 9223372036854775808) 57)) t_213_57
noncomputable def n_213_54 : e_Y := u_push (.inl 2147483658) n_213_56
theorem t_213_54 : e_Sn 213 54 (e_un n_213_54) := u_pushT (s_bipush (n := (10)) hq_213 (by decide +kernel) rfl ⟨by decide +kernel, by decide +kernel⟩ : e_Sn 213 54 (o_push (.inl 2147483658) 56)) t_213_56
noncomputable def n_213_53 : e_Y := u_old (o_dup 54) n_213_54
theorem t_213_53 : e_Sn 213 53 (e_un n_213_53) := u_oldT (s_dup hq_213 (by decide +kernel) rfl : e_Sn 213 53 (o_dup 54)) t_213_54 e_cg_dup
noncomputable def n_213_52 : e_Y := u_old (o_ast 2 e_okL 53) n_213_53
theorem t_213_52 : e_Sn 213 52 (e_un n_213_52) := u_oldT (s_last hq_213 (by decide +kernel) rfl : e_Sn 213 52 (o_ast 2 e_okL 53)) t_213_53 (e_cg_ast 2 e_okL)
noncomputable def n_213_51 : e_Y := u_push (e_L 9223372036854775809) n_213_52
theorem t_213_51 : e_Sn 213 51 (e_un n_213_51) := u_pushT (s_lconst (n := 1) hq_213 (by decide +kernel) rfl ⟨by decide +kernel, by decide +kernel⟩ : e_Sn 213 51 (o_push (e_L 9223372036854775809) 52)) t_213_52
noncomputable def n_213_49 : e_Y := u_push (.inl 2147483657) n_213_51
theorem t_213_49 : e_Sn 213 49 (e_un n_213_49) := u_pushT (s_bipush (n := (9)) hq_213 (by decide +kernel) rfl ⟨by decide +kernel, by decide +kernel⟩ : e_Sn 213 49 (o_push (.inl 2147483657) 51)) t_213_51
noncomputable def n_213_48 : e_Y := u_old (o_dup 49) n_213_49
theorem t_213_48 : e_Sn 213 48 (e_un n_213_48) := u_oldT (s_dup hq_213 (by decide +kernel) rfl : e_Sn 213 48 (o_dup 49)) t_213_49 e_cg_dup
noncomputable def n_213_47 : e_Y := u_old (o_ast 2 e_okL 48) n_213_48
theorem t_213_47 : e_Sn 213 47 (e_un n_213_47) := u_oldT (s_last hq_213 (by decide +kernel) rfl : e_Sn 213 47 (o_ast 2 e_okL 48)) t_213_48 (e_cg_ast 2 e_okL)
noncomputable def n_213_46 : e_Y := u_push (e_L 9223372036854775808) n_213_47
theorem t_213_46 : e_Sn 213 46 (e_un n_213_46) := u_pushT (s_lconst (n := 0) hq_213 (by decide +kernel) rfl ⟨by decide +kernel, by decide +kernel⟩ : e_Sn 213 46 (o_push (e_L 9223372036854775808) 47)) t_213_47
noncomputable def n_213_44 : e_Y := u_push (.inl 2147483656) n_213_46
theorem t_213_44 : e_Sn 213 44 (e_un n_213_44) := u_pushT (s_bipush (n := (8)) hq_213 (by decide +kernel) rfl ⟨by decide +kernel, by decide +kernel⟩ : e_Sn 213 44 (o_push (.inl 2147483656) 46)) t_213_46
noncomputable def n_213_43 : e_Y := u_old (o_dup 44) n_213_44
theorem t_213_43 : e_Sn 213 43 (e_un n_213_43) := u_oldT (s_dup hq_213 (by decide +kernel) rfl : e_Sn 213 43 (o_dup 44)) t_213_44 e_cg_dup
noncomputable def n_213_42 : e_Y := u_old (o_ast 2 e_okL 43) n_213_43
theorem t_213_42 : e_Sn 213 42 (e_un n_213_42) := u_oldT (s_last hq_213 (by decide +kernel) rfl : e_Sn 213 42 (o_ast 2 e_okL 43)) t_213_43 (e_cg_ast 2 e_okL)
noncomputable def n_213_41 : e_Y := u_push (e_L 9223372036854775809) n_213_42
theorem t_213_41 : e_Sn 213 41 (e_un n_213_41) := u_pushT (s_lconst (n := 1) hq_213 (by decide +kernel) rfl ⟨by decide +kernel, by decide +kernel⟩ : e_Sn 213 41 (o_push (e_L 9223372036854775809) 42)) t_213_42
noncomputable def n_213_39 : e_Y := u_push (.inl 2147483655) n_213_41
theorem t_213_39 : e_Sn 213 39 (e_un n_213_39) := u_pushT (s_bipush (n := (7)) hq_213 (by decide +kernel) rfl ⟨by decide +kernel, by decide +kernel⟩ : e_Sn 213 39 (o_push (.inl 2147483655) 41)) t_213_41
noncomputable def n_213_38 : e_Y := u_old (o_dup 39) n_213_39
theorem t_213_38 : e_Sn 213 38 (e_un n_213_38) := u_oldT (s_dup hq_213 (by decide +kernel) rfl : e_Sn 213 38 (o_dup 39)) t_213_39 e_cg_dup
noncomputable def n_213_37 : e_Y := u_old (o_ast 2 e_okL 38) n_213_38
theorem t_213_37 : e_Sn 213 37 (e_un n_213_37) := u_oldT (s_last hq_213 (by decide +kernel) rfl : e_Sn 213 37 (o_ast 2 e_okL 38)) t_213_38 (e_cg_ast 2 e_okL)
noncomputable def n_213_36 : e_Y := u_push (e_L 9223372036854775809) n_213_37
theorem t_213_36 : e_Sn 213 36 (e_un n_213_36) := u_pushT (s_lconst (n := 1) hq_213 (by decide +kernel) rfl ⟨by decide +kernel, by decide +kernel⟩ : e_Sn 213 36 (o_push (e_L 9223372036854775809) 37)) t_213_37
noncomputable def n_213_34 : e_Y := u_push (.inl 2147483654) n_213_36
theorem t_213_34 : e_Sn 213 34 (e_un n_213_34) := u_pushT (s_bipush (n := (6)) hq_213 (by decide +kernel) rfl ⟨by decide +kernel, by decide +kernel⟩ : e_Sn 213 34 (o_push (.inl 2147483654) 36)) t_213_36
noncomputable def n_213_33 : e_Y := u_old (o_dup 34) n_213_34
theorem t_213_33 : e_Sn 213 33 (e_un n_213_33) := u_oldT (s_dup hq_213 (by decide +kernel) rfl : e_Sn 213 33 (o_dup 34)) t_213_34 e_cg_dup
noncomputable def n_213_32 : e_Y := u_old (o_ast 2 e_okL 33) n_213_33
theorem t_213_32 : e_Sn 213 32 (e_un n_213_32) := u_oldT (s_last hq_213 (by decide +kernel) rfl : e_Sn 213 32 (o_ast 2 e_okL 33)) t_213_33 (e_cg_ast 2 e_okL)
noncomputable def n_213_31 : e_Y := u_push (e_L 9223372036854775809) n_213_32
theorem t_213_31 : e_Sn 213 31 (e_un n_213_31) := u_pushT (s_lconst (n := 1) hq_213 (by decide +kernel) rfl ⟨by decide +kernel, by decide +kernel⟩ : e_Sn 213 31 (o_push (e_L 9223372036854775809) 32)) t_213_32
noncomputable def n_213_30 : e_Y := u_push (.inl 2147483653) n_213_31
theorem t_213_30 : e_Sn 213 30 (e_un n_213_30) := u_pushT (s_iconst (n := (5)) hq_213 (by decide +kernel) rfl ⟨by decide +kernel, by decide +kernel⟩ : e_Sn 213 30 (o_push (.inl 2147483653) 31)) t_213_31
noncomputable def n_213_29 : e_Y := u_old (o_dup 30) n_213_30
theorem t_213_29 : e_Sn 213 29 (e_un n_213_29) := u_oldT (s_dup hq_213 (by decide +kernel) rfl : e_Sn 213 29 (o_dup 30)) t_213_30 e_cg_dup
noncomputable def n_213_28 : e_Y := u_old (o_ast 2 e_okL 29) n_213_29
theorem t_213_28 : e_Sn 213 28 (e_un n_213_28) := u_oldT (s_last hq_213 (by decide +kernel) rfl : e_Sn 213 28 (o_ast 2 e_okL 29)) t_213_29 (e_cg_ast 2 e_okL)
noncomputable def n_213_27 : e_Y := u_push (e_L 9223372036854775808) n_213_28
theorem t_213_27 : e_Sn 213 27 (e_un n_213_27) := u_pushT (s_lconst (n := 0) hq_213 (by decide +kernel) rfl ⟨by decide +kernel, by decide +kernel⟩ : e_Sn 213 27 (o_push (e_L 9223372036854775808) 28)) t_213_28
noncomputable def n_213_26 : e_Y := u_push (.inl 2147483652) n_213_27
theorem t_213_26 : e_Sn 213 26 (e_un n_213_26) := u_pushT (s_iconst (n := (4)) hq_213 (by decide +kernel) rfl ⟨by decide +kernel, by decide +kernel⟩ : e_Sn 213 26 (o_push (.inl 2147483652) 27)) t_213_27
noncomputable def n_213_25 : e_Y := u_old (o_dup 26) n_213_26
theorem t_213_25 : e_Sn 213 25 (e_un n_213_25) := u_oldT (s_dup hq_213 (by decide +kernel) rfl : e_Sn 213 25 (o_dup 26)) t_213_26 e_cg_dup
noncomputable def n_213_24 : e_Y := u_old (o_ast 2 e_okL 25) n_213_25
theorem t_213_24 : e_Sn 213 24 (e_un n_213_24) := u_oldT (s_last hq_213 (by decide +kernel) rfl : e_Sn 213 24 (o_ast 2 e_okL 25)) t_213_25 (e_cg_ast 2 e_okL)
noncomputable def n_213_23 : e_Y := u_push (e_L 9223372036854775809) n_213_24
theorem t_213_23 : e_Sn 213 23 (e_un n_213_23) := u_pushT (s_lconst (n := 1) hq_213 (by decide +kernel) rfl ⟨by decide +kernel, by decide +kernel⟩ : e_Sn 213 23 (o_push (e_L 9223372036854775809) 24)) t_213_24
noncomputable def n_213_22 : e_Y := u_push (.inl 2147483651) n_213_23
theorem t_213_22 : e_Sn 213 22 (e_un n_213_22) := u_pushT (s_iconst (n := (3)) hq_213 (by decide +kernel) rfl ⟨by decide +kernel, by decide +kernel⟩ : e_Sn 213 22 (o_push (.inl 2147483651) 23)) t_213_23
noncomputable def n_213_21 : e_Y := u_old (o_dup 22) n_213_22
theorem t_213_21 : e_Sn 213 21 (e_un n_213_21) := u_oldT (s_dup hq_213 (by decide +kernel) rfl : e_Sn 213 21 (o_dup 22)) t_213_22 e_cg_dup
noncomputable def n_213_20 : e_Y := u_old (o_ast 2 e_okL 21) n_213_21
theorem t_213_20 : e_Sn 213 20 (e_un n_213_20) := u_oldT (s_last hq_213 (by decide +kernel) rfl : e_Sn 213 20 (o_ast 2 e_okL 21)) t_213_21 (e_cg_ast 2 e_okL)
noncomputable def n_213_19 : e_Y := u_push (e_L 9223372036854775808) n_213_20
theorem t_213_19 : e_Sn 213 19 (e_un n_213_19) := u_pushT (s_lconst (n := 0) hq_213 (by decide +kernel) rfl ⟨by decide +kernel, by decide +kernel⟩ : e_Sn 213 19 (o_push (e_L 9223372036854775808) 20)) t_213_20
noncomputable def n_213_18 : e_Y := u_push (.inl 2147483650) n_213_19
theorem t_213_18 : e_Sn 213 18 (e_un n_213_18) := u_pushT (s_iconst (n := (2)) hq_213 (by decide +kernel) rfl ⟨by decide +kernel, by decide +kernel⟩ : e_Sn 213 18 (o_push (.inl 2147483650) 19)) t_213_19
noncomputable def n_213_17 : e_Y := u_old (o_dup 18) n_213_18
theorem t_213_17 : e_Sn 213 17 (e_un n_213_17) := u_oldT (s_dup hq_213 (by decide +kernel) rfl : e_Sn 213 17 (o_dup 18)) t_213_18 e_cg_dup
noncomputable def n_213_16 : e_Y := u_old (o_ast 2 e_okL 17) n_213_17
theorem t_213_16 : e_Sn 213 16 (e_un n_213_16) := u_oldT (s_last hq_213 (by decide +kernel) rfl : e_Sn 213 16 (o_ast 2 e_okL 17)) t_213_17 (e_cg_ast 2 e_okL)
noncomputable def n_213_15 : e_Y := u_push (e_L 9223372036854775809) n_213_16
theorem t_213_15 : e_Sn 213 15 (e_un n_213_15) := u_pushT (s_lconst (n := 1) hq_213 (by decide +kernel) rfl ⟨by decide +kernel, by decide +kernel⟩ : e_Sn 213 15 (o_push (e_L 9223372036854775809) 16)) t_213_16
noncomputable def n_213_14 : e_Y := u_push (.inl 2147483649) n_213_15
theorem t_213_14 : e_Sn 213 14 (e_un n_213_14) := u_pushT (s_iconst (n := (1)) hq_213 (by decide +kernel) rfl ⟨by decide +kernel, by decide +kernel⟩ : e_Sn 213 14 (o_push (.inl 2147483649) 15)) t_213_15
noncomputable def n_213_13 : e_Y := u_old (o_dup 14) n_213_14
theorem t_213_13 : e_Sn 213 13 (e_un n_213_13) := u_oldT (s_dup hq_213 (by decide +kernel) rfl : e_Sn 213 13 (o_dup 14)) t_213_14 e_cg_dup
noncomputable def n_213_12 : e_Y := u_old (o_ast 2 e_okL 13) n_213_13
theorem t_213_12 : e_Sn 213 12 (e_un n_213_12) := u_oldT (s_last hq_213 (by decide +kernel) rfl : e_Sn 213 12 (o_ast 2 e_okL 13)) t_213_13 (e_cg_ast 2 e_okL)
noncomputable def n_213_11 : e_Y := u_push (e_L 9223372036854775809) n_213_12
theorem t_213_11 : e_Sn 213 11 (e_un n_213_11) := u_pushT (s_lconst (n := 1) hq_213 (by decide +kernel) rfl ⟨by decide +kernel, by decide +kernel⟩ : e_Sn 213 11 (o_push (e_L 9223372036854775809) 12)) t_213_12
noncomputable def n_213_10 : e_Y := u_push (.inl 2147483648) n_213_11
theorem t_213_10 : e_Sn 213 10 (e_un n_213_10) := u_pushT (s_iconst (n := (0)) hq_213 (by decide +kernel) rfl ⟨by decide +kernel, by decide +kernel⟩ : e_Sn 213 10 (o_push (.inl 2147483648) 11)) t_213_11
noncomputable def n_213_9 : e_Y := u_old (o_dup 10) n_213_10
theorem t_213_9 : e_Sn 213 9 (e_un n_213_9) := u_oldT (s_dup hq_213 (by decide +kernel) rfl : e_Sn 213 9 (o_dup 10)) t_213_10 e_cg_dup
noncomputable def n_213_7 : e_Y := u_tab (o_newa 2 (e_L 9223372036854775808) 9)
theorem t_213_7 : e_Sn 213 7 (e_un n_213_7) := u_tabT (s_newJ (List.mem_of_getElem? (i := 279) (by decide +kernel)) hq_213 (by decide +kernel) rfl : e_Sn 213 7 (o_newa 2 (e_L 9223372036854775808) 9))
noncomputable def n_213_5 : e_Y := u_push (.inl 2147483660) n_213_7
theorem t_213_5 : e_Sn 213 5 (e_un n_213_5) := u_pushT (s_bipush (n := (12)) hq_213 (by decide +kernel) rfl ⟨by decide +kernel, by decide +kernel⟩ : e_Sn 213 5 (o_push (.inl 2147483660) 7)) t_213_7
noncomputable def n_213_4 : e_Y := u_ld f_okA f_l0 n_213_5
theorem t_213_4 : e_Sn 213 4 (e_un n_213_4) := u_ldAT f_l0_eq (s_aload (i := .aload_n 0) (len := 1) hq_213 (by decide +kernel) rfl (.inr ⟨0, rfl, rfl, rfl⟩) : e_Sn 213 4 (o_load e_okR 0 5)) t_213_5
noncomputable def n_213_1 : e_Y := u_tab (o_oinit 4)
theorem t_213_1 : e_Sn 213 1 (e_un n_213_1) := u_tabT (s_oinit (idx := 3) hq_213 ho_213 (List.mem_of_getElem? (i := 1786) (by decide +kernel)) (List.mem_of_getElem? (i := 190) (by decide +kernel)) (List.mem_of_getElem? (i := 191) (by decide +kernel)) (by decide +kernel) rfl : e_Sn 213 1 (o_oinit 4))
noncomputable def n_213_0 : e_Y := u_ld f_okA f_l0 n_213_1
theorem t_213_0 : e_Sn 213 0 (e_un n_213_0) := u_ldAT f_l0_eq (s_aload (i := .aload_n 0) (len := 1) hq_213 (by decide +kernel) rfl (.inr ⟨0, rfl, rfl, rfl⟩) : e_Sn 213 0 (o_load e_okR 0 1)) t_213_1
noncomputable def e_tb_213 : e_X := (e_br 74 (e_br 9 (e_br 4 (e_lf 0 (e_un n_213_0)) (e_lf 4 (e_un n_213_4))) (e_br 70 (e_lf 9 (e_un n_213_9)) (e_lf 70 (e_un n_213_70)))) (e_br 90 (e_br 83 (e_lf 74 (e_un n_213_74)) (e_lf 83 (e_un n_213_83))) (e_br 114 (e_lf 90 (e_un n_213_90)) (e_br 135 (e_lf 114 (e_un n_213_114)) (e_lf 135 (e_un n_213_135))))))
theorem e_tk_213 : e_Tb 213 e_tb_213 := (e_brT (e_brT (e_brT (e_lfT t_213_0) (e_lfT t_213_4)) (e_brT (e_lfT t_213_9) (e_lfT t_213_70))) (e_brT (e_brT (e_lfT t_213_74) (e_lfT t_213_83)) (e_brT (e_lfT t_213_90) (e_brT (e_lfT t_213_114) (e_lfT t_213_135)))))
theorem hq_238 : (e_ml[238]?).map (·.2.1) = some prog_59_method_27_code := rfl
theorem ho_238 : (e_ml[238]?).map (·.1.cls) = some "jdk/internal/util/ArraysSupport" := rfl
theorem hr_238 : (e_ml[238]?).map (·.2.2.2) = some (some .int) := rfl
noncomputable def n_238_20 : e_Y := u_retI
theorem t_238_20 : e_Sn 238 20 (e_un n_238_20) := u_retIT (s_iret hq_238 hr_238 (by decide +kernel) : e_Sn 238 20 (o_ret e_okI))
noncomputable def n_238_19 : e_Y := u_ld f_okI f_l3 n_238_20
theorem t_238_19 : e_Sn 238 19 (e_un n_238_19) := u_ldIT f_l3_eq (s_iload (i := .iload_n 3) (len := 1) hq_238 (by decide +kernel) rfl (.inr ⟨3, rfl, rfl, rfl⟩) : e_Sn 238 19 (o_load e_okI 3 20)) t_238_20
noncomputable def n_238_16 : e_Y := u_jmp y_le (u_old2 (o_cgt 21 19) 21 (u_at 21) n_238_19) (u_at 21) n_238_19
theorem t_238_16 : e_Sn 238 16 (e_un n_238_16) := u_cgtT rfl (s_cgt (off := (5)) hq_238 (by decide +kernel) rfl rfl : e_Sn 238 16 (o_cgt 21 19)) u_atT t_238_19
noncomputable def n_238_14 : e_Y := u_push (e_I 4294967287) n_238_16
theorem t_238_14 : e_Sn 238 14 (e_un n_238_14) := u_pushT (s_ldc (index := 200) (v := (2147483639)) hq_238 ho_238 (List.mem_of_getElem? (i := 1840) (by decide +kernel)) (by decide +kernel) rfl ⟨by decide +kernel, by decide +kernel⟩ : e_Sn 238 14 (o_push (e_I 4294967287) 16)) t_238_16
noncomputable def n_238_13 : e_Y := u_ld f_okI f_l3 n_238_14
theorem t_238_13 : e_Sn 238 13 (e_un n_238_13) := u_ldIT f_l3_eq (s_iload (i := .iload_n 3) (len := 1) hq_238 (by decide +kernel) rfl (.inr ⟨3, rfl, rfl, rfl⟩) : e_Sn 238 13 (o_load e_okI 3 14)) t_238_14
noncomputable def n_238_10 : e_Y := u_jmp y_ge (u_old2 (o_clt 13 21) 13 n_238_13 (u_at 21)) n_238_13 (u_at 21)
theorem t_238_10 : e_Sn 238 10 (e_un n_238_10) := u_cltT rfl (s_cge (off := (11)) hq_238 (by decide +kernel) rfl rfl : e_Sn 238 10 (o_clt 13 21)) t_238_13 u_atT
noncomputable def n_238_9 : e_Y := u_ld f_okI f_l3 n_238_10
theorem t_238_9 : e_Sn 238 9 (e_un n_238_9) := u_ldIT f_l3_eq (s_iload (i := .iload_n 3) (len := 1) hq_238 (by decide +kernel) rfl (.inr ⟨3, rfl, rfl, rfl⟩) : e_Sn 238 9 (o_load e_okI 3 10)) t_238_10
noncomputable def n_238_8 : e_Y := u_push (.inl 2147483648) n_238_9
theorem t_238_8 : e_Sn 238 8 (e_un n_238_8) := u_pushT (s_iconst (n := (0)) hq_238 (by decide +kernel) rfl ⟨by decide +kernel, by decide +kernel⟩ : e_Sn 238 8 (o_push (.inl 2147483648) 9)) t_238_9
noncomputable def n_238_7 : e_Y := u_st f_okI f_s3 n_238_8
theorem t_238_7 : e_Sn 238 7 (e_un n_238_7) := u_stIT (fun _ _ _ => f_s3_eq) (s_istore (i := .istore_n 3) (len := 1) hq_238 (by decide +kernel) rfl (.inr ⟨3, rfl, rfl, rfl⟩) : e_Sn 238 7 (o_store e_okI 3 8)) t_238_8
noncomputable def n_238_6 : e_Y := u_bin a_iadd (u_old (o_iadd 7) n_238_7) n_238_7
theorem t_238_6 : e_Sn 238 6 (e_un n_238_6) := u_iaddT (s_iadd hq_238 (by decide +kernel) rfl : e_Sn 238 6 (o_iadd 7)) t_238_7
noncomputable def n_238_3 : e_Y := u_tab (o_mmax 6)
theorem t_238_3 : e_Sn 238 3 (e_un n_238_3) := u_tabT (s_mmax (index := 194) hq_238 ho_238 (List.mem_of_getElem? (i := 1839) (by decide +kernel)) (List.mem_of_getElem? (i := 229) (by decide +kernel)) (List.mem_of_getElem? (i := 142) (by decide +kernel)) (List.mem_of_getElem? (i := 230) (by decide +kernel)) (by decide +kernel) rfl : e_Sn 238 3 (o_mmax 6))
noncomputable def n_238_2 : e_Y := u_ld f_okI f_l2 n_238_3
theorem t_238_2 : e_Sn 238 2 (e_un n_238_2) := u_ldIT f_l2_eq (s_iload (i := .iload_n 2) (len := 1) hq_238 (by decide +kernel) rfl (.inr ⟨2, rfl, rfl, rfl⟩) : e_Sn 238 2 (o_load e_okI 2 3)) t_238_3
noncomputable def n_238_1 : e_Y := u_ld f_okI f_l1 n_238_2
theorem t_238_1 : e_Sn 238 1 (e_un n_238_1) := u_ldIT f_l1_eq (s_iload (i := .iload_n 1) (len := 1) hq_238 (by decide +kernel) rfl (.inr ⟨1, rfl, rfl, rfl⟩) : e_Sn 238 1 (o_load e_okI 1 2)) t_238_2
noncomputable def n_238_0 : e_Y := u_ld f_okI f_l0 n_238_1
theorem t_238_0 : e_Sn 238 0 (e_un n_238_0) := u_ldIT f_l0_eq (s_iload (i := .iload_n 0) (len := 1) hq_238 (by decide +kernel) rfl (.inr ⟨0, rfl, rfl, rfl⟩) : e_Sn 238 0 (o_load e_okI 0 1)) t_238_1
noncomputable def e_tb_238 : e_X := (e_br 6 (e_lf 0 (e_un n_238_0)) (e_lf 6 (e_un n_238_6)))
theorem e_tk_238 : e_Tb 238 e_tb_238 := (e_brT (e_lfT t_238_0) (e_lfT t_238_6))
theorem hq_132 : (e_ml[132]?).map (·.2.1) = some prog_14_method_1_code := rfl
theorem ho_132 : (e_ml[132]?).map (·.1.cls) = some "PlateroomprinterModel" := rfl
theorem hr_132 : (e_ml[132]?).map (·.2.2.2) = some none := rfl
noncomputable def n_132_45 : e_Y := u_tab (o_retv)
theorem t_132_45 : e_Sn 132 45 (e_un n_132_45) := u_tabT (s_vret hq_132 hr_132 (by decide +kernel) : e_Sn 132 45 (o_retv))
noncomputable def n_132_42 : e_Y := u_old (o_putf (e_f1 12 3) e_okR 45) n_132_45
theorem t_132_42 : e_Sn 132 42 (e_un n_132_42) := u_oldT (s_putf (ty0 := ey_12) (ok := e_okR) (C := er_12) (T := et_12) (N := 5) (ref := "PlateroomprinterModel") (index := 23) (ci := 12) (k := 3) hq_132 ho_132 ⟨rfl, by decide, ei_12, (List.mem_of_getElem? (i := 1961) (by decide +kernel)), .inl rfl⟩ eo_12 en_12 e_oksA (.inr ⟨rfl, rfl, rfl⟩) (by decide +kernel) rfl : e_Sn 132 42 (o_putf (e_f1 12 3) e_okR 45)) t_132_45 (e_cg_putf (e_f1 12 3) e_okR)
noncomputable def n_132_41 : e_Y := u_old (o_ast 0 e_okI 42) n_132_42
theorem t_132_41 : e_Sn 132 41 (e_un n_132_41) := u_oldT (s_iast hq_132 (by decide +kernel) rfl : e_Sn 132 41 (o_ast 0 e_okI 42)) t_132_42 (e_cg_ast 0 e_okI)
noncomputable def n_132_40 : e_Y := u_push (.inl 2147483647) n_132_41
theorem t_132_40 : e_Sn 132 40 (e_un n_132_40) := u_pushT (s_iconst (n := (-1)) hq_132 (by decide +kernel) rfl ⟨by decide +kernel, by decide +kernel⟩ : e_Sn 132 40 (o_push (.inl 2147483647) 41)) t_132_41
noncomputable def n_132_39 : e_Y := u_push (.inl 2147483650) n_132_40
theorem t_132_39 : e_Sn 132 39 (e_un n_132_39) := u_pushT (s_iconst (n := (2)) hq_132 (by decide +kernel) rfl ⟨by decide +kernel, by decide +kernel⟩ : e_Sn 132 39 (o_push (.inl 2147483650) 40)) t_132_40
noncomputable def n_132_38 : e_Y := u_old (o_dup 39) n_132_39
theorem t_132_38 : e_Sn 132 38 (e_un n_132_38) := u_oldT (s_dup hq_132 (by decide +kernel) rfl : e_Sn 132 38 (o_dup 39)) t_132_39 e_cg_dup
noncomputable def n_132_37 : e_Y := u_old (o_ast 0 e_okI 38) n_132_38
theorem t_132_37 : e_Sn 132 37 (e_un n_132_37) := u_oldT (s_iast hq_132 (by decide +kernel) rfl : e_Sn 132 37 (o_ast 0 e_okI 38)) t_132_38 (e_cg_ast 0 e_okI)
noncomputable def n_132_36 : e_Y := u_push (.inl 2147483647) n_132_37
theorem t_132_36 : e_Sn 132 36 (e_un n_132_36) := u_pushT (s_iconst (n := (-1)) hq_132 (by decide +kernel) rfl ⟨by decide +kernel, by decide +kernel⟩ : e_Sn 132 36 (o_push (.inl 2147483647) 37)) t_132_37
noncomputable def n_132_35 : e_Y := u_push (.inl 2147483649) n_132_36
theorem t_132_35 : e_Sn 132 35 (e_un n_132_35) := u_pushT (s_iconst (n := (1)) hq_132 (by decide +kernel) rfl ⟨by decide +kernel, by decide +kernel⟩ : e_Sn 132 35 (o_push (.inl 2147483649) 36)) t_132_36
noncomputable def n_132_34 : e_Y := u_old (o_dup 35) n_132_35
theorem t_132_34 : e_Sn 132 34 (e_un n_132_34) := u_oldT (s_dup hq_132 (by decide +kernel) rfl : e_Sn 132 34 (o_dup 35)) t_132_35 e_cg_dup
noncomputable def n_132_33 : e_Y := u_old (o_ast 0 e_okI 34) n_132_34
theorem t_132_33 : e_Sn 132 33 (e_un n_132_33) := u_oldT (s_iast hq_132 (by decide +kernel) rfl : e_Sn 132 33 (o_ast 0 e_okI 34)) t_132_34 (e_cg_ast 0 e_okI)
noncomputable def n_132_32 : e_Y := u_push (.inl 2147483648) n_132_33
theorem t_132_32 : e_Sn 132 32 (e_un n_132_32) := u_pushT (s_iconst (n := (0)) hq_132 (by decide +kernel) rfl ⟨by decide +kernel, by decide +kernel⟩ : e_Sn 132 32 (o_push (.inl 2147483648) 33)) t_132_33
noncomputable def n_132_31 : e_Y := u_push (.inl 2147483648) n_132_32
theorem t_132_31 : e_Sn 132 31 (e_un n_132_31) := u_pushT (s_iconst (n := (0)) hq_132 (by decide +kernel) rfl ⟨by decide +kernel, by decide +kernel⟩ : e_Sn 132 31 (o_push (.inl 2147483648) 32)) t_132_32
noncomputable def n_132_30 : e_Y := u_old (o_dup 31) n_132_31
theorem t_132_30 : e_Sn 132 30 (e_un n_132_30) := u_oldT (s_dup hq_132 (by decide +kernel) rfl : e_Sn 132 30 (o_dup 31)) t_132_31 e_cg_dup
noncomputable def n_132_28 : e_Y := u_tab (o_newa 0 (e_I 2147483648) 30)
theorem t_132_28 : e_Sn 132 28 (e_un n_132_28) := u_tabT (s_newI (List.mem_of_getElem? (i := 215) (by decide +kernel)) hq_132 (by decide +kernel) rfl : e_Sn 132 28 (o_newa 0 (e_I 2147483648) 30))
noncomputable def n_132_27 : e_Y := u_push (.inl 2147483651) n_132_28
theorem t_132_27 : e_Sn 132 27 (e_un n_132_27) := u_pushT (s_iconst (n := (3)) hq_132 (by decide +kernel) rfl ⟨by decide +kernel, by decide +kernel⟩ : e_Sn 132 27 (o_push (.inl 2147483651) 28)) t_132_28
noncomputable def n_132_26 : e_Y := u_ld f_okA f_l0 n_132_27
theorem t_132_26 : e_Sn 132 26 (e_un n_132_26) := u_ldAT f_l0_eq (s_aload (i := .aload_n 0) (len := 1) hq_132 (by decide +kernel) rfl (.inr ⟨0, rfl, rfl, rfl⟩) : e_Sn 132 26 (o_load e_okR 0 27)) t_132_27
noncomputable def n_132_23 : e_Y := u_old (o_putf (e_f1 12 2) e_okR 26) n_132_26
theorem t_132_23 : e_Sn 132 23 (e_un n_132_23) := u_oldT (s_putf (ty0 := ey_12) (ok := e_okR) (C := er_12) (T := et_12) (N := 5) (ref := "PlateroomprinterModel") (index := 19) (ci := 12) (k := 2) hq_132 ho_132 ⟨rfl, by decide, ei_12, (List.mem_of_getElem? (i := 1960) (by decide +kernel)), .inl rfl⟩ eo_12 en_12 e_oksR (.inl rfl) (by decide +kernel) rfl : e_Sn 132 23 (o_putf (e_f1 12 2) e_okR 26)) t_132_26 (e_cg_putf (e_f1 12 2) e_okR)
noncomputable def n_132_20 : e_Y := u_tab (o_callI 222 1 1 23)
theorem t_132_20 : e_Sn 132 20 (e_un n_132_20) := u_tabT (s_callI (index := 18) hq_132 ho_132 hy_222 hp_222 hc_222 hi_222 hd_222 (List.mem_of_getElem? (i := 1957) (by decide +kernel)) rfl rfl hs_222 (by decide +kernel) rfl : e_Sn 132 20 (o_callI 222 1 1 23))
noncomputable def n_132_19 : e_Y := u_old (o_dup 20) n_132_20
theorem t_132_19 : e_Sn 132 19 (e_un n_132_19) := u_oldT (s_dup hq_132 (by decide +kernel) rfl : e_Sn 132 19 (o_dup 20)) t_132_20 e_cg_dup
noncomputable def n_132_16 : e_Y := u_tab (o_new 18 3 ef_18 19)
theorem t_132_16 : e_Sn 132 16 (e_un n_132_16) := u_tabT (s_new (index := 16) (ci := 18) (N := 3) (C := er_18) (T := et_18) (ty0 := ey_18) (fv := eg_18) hq_132 ho_132 rfl ei_18 eo_18 (List.mem_of_getElem? (i := 1956) (by decide +kernel)) (List.mem_of_getElem? (i := 1751) (by decide +kernel)) (List.mem_of_getElem? (i := 155) (by decide +kernel)) eh_18 rfl (e_newrel ek_18) (by decide +kernel) rfl : e_Sn 132 16 (o_new 18 3 ef_18 19))
noncomputable def n_132_15 : e_Y := u_ld f_okA f_l0 n_132_16
theorem t_132_15 : e_Sn 132 15 (e_un n_132_15) := u_ldAT f_l0_eq (s_aload (i := .aload_n 0) (len := 1) hq_132 (by decide +kernel) rfl (.inr ⟨0, rfl, rfl, rfl⟩) : e_Sn 132 15 (o_load e_okR 0 16)) t_132_16
noncomputable def n_132_12 : e_Y := u_old (o_putf (e_f1 12 1) e_okR 15) n_132_15
theorem t_132_12 : e_Sn 132 12 (e_un n_132_12) := u_oldT (s_putf (ty0 := ey_12) (ok := e_okR) (C := er_12) (T := et_12) (N := 5) (ref := "PlateroomprinterModel") (index := 10) (ci := 12) (k := 1) hq_132 ho_132 ⟨rfl, by decide, ei_12, (List.mem_of_getElem? (i := 1959) (by decide +kernel)), .inl rfl⟩ eo_12 en_12 e_oksR (.inl rfl) (by decide +kernel) rfl : e_Sn 132 12 (o_putf (e_f1 12 1) e_okR 15)) t_132_15 (e_cg_putf (e_f1 12 1) e_okR)
noncomputable def n_132_9 : e_Y := u_tab (o_callI 204 2 1 12)
theorem t_132_9 : e_Sn 132 9 (e_un n_132_9) := u_tabT (s_callI (index := 9) hq_132 ho_132 hy_204 hp_204 hc_204 hi_204 hd_204 (List.mem_of_getElem? (i := 1746) (by decide +kernel)) rfl rfl hs_204 (by decide +kernel) rfl : e_Sn 132 9 (o_callI 204 2 1 12))
noncomputable def n_132_8 : e_Y := u_old (o_dup 9) n_132_9
theorem t_132_8 : e_Sn 132 8 (e_un n_132_8) := u_oldT (s_dup hq_132 (by decide +kernel) rfl : e_Sn 132 8 (o_dup 9)) t_132_9 e_cg_dup
noncomputable def n_132_5 : e_Y := u_tab (o_new 13 13 ef_13 8)
theorem t_132_5 : e_Sn 132 5 (e_un n_132_5) := u_tabT (s_new (index := 7) (ci := 13) (N := 13) (C := er_13) (T := et_13) (ty0 := ey_13) (fv := eg_13) hq_132 ho_132 rfl ei_13 eo_13 (List.mem_of_getElem? (i := 1744) (by decide +kernel)) (List.mem_of_getElem? (i := 1745) (by decide +kernel)) (List.mem_of_getElem? (i := 152) (by decide +kernel)) eh_13 rfl (e_newrel ek_13) (by decide +kernel) rfl : e_Sn 132 5 (o_new 13 13 ef_13 8))
noncomputable def n_132_4 : e_Y := u_ld f_okA f_l0 n_132_5
theorem t_132_4 : e_Sn 132 4 (e_un n_132_4) := u_ldAT f_l0_eq (s_aload (i := .aload_n 0) (len := 1) hq_132 (by decide +kernel) rfl (.inr ⟨0, rfl, rfl, rfl⟩) : e_Sn 132 4 (o_load e_okR 0 5)) t_132_5
noncomputable def n_132_1 : e_Y := u_tab (o_oinit 4)
theorem t_132_1 : e_Sn 132 1 (e_un n_132_1) := u_tabT (s_oinit (idx := 1) hq_132 ho_132 (List.mem_of_getElem? (i := 1743) (by decide +kernel)) (List.mem_of_getElem? (i := 190) (by decide +kernel)) (List.mem_of_getElem? (i := 191) (by decide +kernel)) (by decide +kernel) rfl : e_Sn 132 1 (o_oinit 4))
noncomputable def n_132_0 : e_Y := u_ld f_okA f_l0 n_132_1
theorem t_132_0 : e_Sn 132 0 (e_un n_132_0) := u_ldAT f_l0_eq (s_aload (i := .aload_n 0) (len := 1) hq_132 (by decide +kernel) rfl (.inr ⟨0, rfl, rfl, rfl⟩) : e_Sn 132 0 (o_load e_okR 0 1)) t_132_1
noncomputable def e_tb_132 : e_X := (e_br 12 (e_br 4 (e_lf 0 (e_un n_132_0)) (e_br 8 (e_lf 4 (e_un n_132_4)) (e_lf 8 (e_un n_132_8)))) (e_br 23 (e_br 19 (e_lf 12 (e_un n_132_12)) (e_lf 19 (e_un n_132_19))) (e_br 30 (e_lf 23 (e_un n_132_23)) (e_lf 30 (e_un n_132_30)))))
theorem e_tk_132 : e_Tb 132 e_tb_132 := (e_brT (e_brT (e_lfT t_132_0) (e_brT (e_lfT t_132_4) (e_lfT t_132_8))) (e_brT (e_brT (e_lfT t_132_12) (e_lfT t_132_19)) (e_brT (e_lfT t_132_23) (e_lfT t_132_30))))
theorem hq_133 : (e_ml[133]?).map (·.2.1) = some prog_14_method_83_code := rfl
theorem ho_133 : (e_ml[133]?).map (·.1.cls) = some "PlateroomprinterModel" := rfl
theorem hr_133 : (e_ml[133]?).map (·.2.2.2) = some (some .long) := rfl
noncomputable def n_133_7 : e_Y := u_tab (o_ret e_okL)
theorem t_133_7 : e_Sn 133 7 (e_un n_133_7) := u_tabT (s_lret hq_133 hr_133 (by decide +kernel) : e_Sn 133 7 (o_ret e_okL))
noncomputable def n_133_6 : e_Y := u_old (o_ladd 7) n_133_7
theorem t_133_6 : e_Sn 133 6 (e_un n_133_6) := u_oldT (s_ladd hq_133 (by decide +kernel) rfl : e_Sn 133 6 (o_ladd 7)) t_133_7 e_cg_ladd
noncomputable def n_133_5 : e_Y := u_old (o_load e_okL 2 6) n_133_6
theorem t_133_5 : e_Sn 133 5 (e_un n_133_5) := u_oldT (s_lload (i := .lload_n 2) (len := 1) hq_133 (by decide +kernel) rfl (.inr ⟨2, rfl, rfl, rfl⟩) : e_Sn 133 5 (o_load e_okL 2 6)) t_133_6 e_congr_load
noncomputable def n_133_4 : e_Y := u_old (o_lmul 5) n_133_5
theorem t_133_4 : e_Sn 133 4 (e_un n_133_4) := u_oldT (s_lmul hq_133 (by decide +kernel) rfl : e_Sn 133 4 (o_lmul 5)) t_133_5 e_cg_lmul
noncomputable def n_133_1 : e_Y := u_push (e_L 9223372036854775839) n_133_4
theorem t_133_1 : e_Sn 133 1 (e_un n_133_1) := u_pushT (s_ldc2 (index := 286) (v := (31)) hq_133 ho_133 (List.mem_of_getElem? (i := 3009) (by decide +kernel)) (by decide +kernel) rfl ⟨by decide +kernel, by decide +kernel⟩ : e_Sn 133 1 (o_push (e_L 9223372036854775839) 4)) t_133_4
noncomputable def n_133_0 : e_Y := u_old (o_load e_okL 0 1) n_133_1
theorem t_133_0 : e_Sn 133 0 (e_un n_133_0) := u_oldT (s_lload (i := .lload_n 0) (len := 1) hq_133 (by decide +kernel) rfl (.inr ⟨0, rfl, rfl, rfl⟩) : e_Sn 133 0 (o_load e_okL 0 1)) t_133_1 e_congr_load
noncomputable def e_tb_133 : e_X := (e_lf 0 (e_un n_133_0))
theorem e_tk_133 : e_Tb 133 e_tb_133 := (e_lfT t_133_0)
theorem hq_183 : (e_ml[183]?).map (·.2.1) = some prog_14_method_15_code := rfl
theorem ho_183 : (e_ml[183]?).map (·.1.cls) = some "PlateroomprinterModel" := rfl
theorem hr_183 : (e_ml[183]?).map (·.2.2.2) = some (some .int) := rfl
noncomputable def n_183_123 : e_Y := u_retI
theorem t_183_123 : e_Sn 183 123 (e_un n_183_123) := u_retIT (s_iret hq_183 hr_183 (by decide +kernel) : e_Sn 183 123 (o_ret e_okI))
noncomputable def n_183_122 : e_Y := u_push (.inl 2147483648) n_183_123
theorem t_183_122 : e_Sn 183 122 (e_un n_183_122) := u_pushT (s_iconst (n := (0)) hq_183 (by decide +kernel) rfl ⟨by decide +kernel, by decide +kernel⟩ : e_Sn 183 122 (o_push (.inl 2147483648) 123)) t_183_123
noncomputable def n_183_119 : e_Y := n_183_123
theorem t_183_119 : e_Sn 183 119 (e_un n_183_119) := u_gotoT (s_goto (off := (4)) hq_183 (by decide +kernel) rfl : e_Sn 183 119 (o_goto 123)) t_183_123
noncomputable def n_183_118 : e_Y := u_push (.inl 2147483647) n_183_119
theorem t_183_118 : e_Sn 183 118 (e_un n_183_118) := u_pushT (s_iconst (n := (-1)) hq_183 (by decide +kernel) rfl ⟨by decide +kernel, by decide +kernel⟩ : e_Sn 183 118 (o_push (.inl 2147483647) 119)) t_183_119
noncomputable def n_183_111 : e_Y := u_jmp y_ge (u_old2 (o_clt 114 118) 114 (u_at 114) n_183_118) (u_at 114) n_183_118
theorem t_183_111 : e_Sn 183 111 (e_un n_183_111) := u_cltT rfl (s_cge (off := (7)) hq_183 (by decide +kernel) rfl rfl : e_Sn 183 111 (o_clt 114 118)) u_atT t_183_118
noncomputable def n_183_110 : e_Y := u_ald 0 (u_old (o_ald e_fcs 111) n_183_111) n_183_111
theorem t_183_110 : e_Sn 183 110 (e_un n_183_110) := u_aldT (s_iald hq_183 (by decide +kernel) rfl : e_Sn 183 110 (o_ald e_fcs 111)) t_183_111
noncomputable def n_183_109 : e_Y := u_push (.inl 2147483649) n_183_110
theorem t_183_109 : e_Sn 183 109 (e_un n_183_109) := u_pushT (s_iconst (n := (1)) hq_183 (by decide +kernel) rfl ⟨by decide +kernel, by decide +kernel⟩ : e_Sn 183 109 (o_push (.inl 2147483649) 110)) t_183_110
noncomputable def n_183_108 : e_Y := u_ld f_okA f_l1 n_183_109
theorem t_183_108 : e_Sn 183 108 (e_un n_183_108) := u_ldAT f_l1_eq (s_aload (i := .aload_n 1) (len := 1) hq_183 (by decide +kernel) rfl (.inr ⟨1, rfl, rfl, rfl⟩) : e_Sn 183 108 (o_load e_okR 1 109)) t_183_109
noncomputable def n_183_107 : e_Y := u_ald 0 (u_old (o_ald e_fcs 108) n_183_108) n_183_108
theorem t_183_107 : e_Sn 183 107 (e_un n_183_107) := u_aldT (s_iald hq_183 (by decide +kernel) rfl : e_Sn 183 107 (o_ald e_fcs 108)) t_183_108
noncomputable def n_183_106 : e_Y := u_push (.inl 2147483649) n_183_107
theorem t_183_106 : e_Sn 183 106 (e_un n_183_106) := u_pushT (s_iconst (n := (1)) hq_183 (by decide +kernel) rfl ⟨by decide +kernel, by decide +kernel⟩ : e_Sn 183 106 (o_push (.inl 2147483649) 107)) t_183_107
noncomputable def n_183_105 : e_Y := u_ld f_okA f_l0 n_183_106
theorem t_183_105 : e_Sn 183 105 (e_un n_183_105) := u_ldAT f_l0_eq (s_aload (i := .aload_n 0) (len := 1) hq_183 (by decide +kernel) rfl (.inr ⟨0, rfl, rfl, rfl⟩) : e_Sn 183 105 (o_load e_okR 0 106)) t_183_106
noncomputable def n_183_102 : e_Y := u_if y_ne0 (u_old2 (o_ifeq 122 105) 122 n_183_122 n_183_105) n_183_122 n_183_105
theorem t_183_102 : e_Sn 183 102 (e_un n_183_102) := u_ifeqT rfl (s_ifeq (off := (20)) hq_183 (by decide +kernel) rfl rfl : e_Sn 183 102 (o_ifeq 122 105)) t_183_122 t_183_105
noncomputable def n_183_100 : e_Y := u_ld f_okI f_l6 n_183_102
theorem t_183_100 : e_Sn 183 100 (e_un n_183_100) := u_ldIT f_l6_eq (s_iload (i := .iload 6) (len := 2) hq_183 (by decide +kernel) rfl (.inl ⟨rfl, rfl⟩) : e_Sn 183 100 (o_load e_okI 6 102)) t_183_102
noncomputable def n_183_98 : e_Y := u_st f_okI f_s6 n_183_100
theorem t_183_98 : e_Sn 183 98 (e_un n_183_98) := u_stIT (fun _ _ _ => f_s6_eq) (s_istore (i := .istore 6) (len := 2) hq_183 (by decide +kernel) rfl (.inl ⟨rfl, rfl⟩) : e_Sn 183 98 (o_store e_okI 6 100)) t_183_100
noncomputable def n_183_94 : e_Y := n_183_98
theorem t_183_94 : e_Sn 183 94 (e_un n_183_94) := u_gotoT (s_goto (off := (4)) hq_183 (by decide +kernel) rfl : e_Sn 183 94 (o_goto 98)) t_183_98
noncomputable def n_183_93 : e_Y := u_push (.inl 2147483649) n_183_94
theorem t_183_93 : e_Sn 183 93 (e_un n_183_93) := u_pushT (s_iconst (n := (1)) hq_183 (by decide +kernel) rfl ⟨by decide +kernel, by decide +kernel⟩ : e_Sn 183 93 (o_push (.inl 2147483649) 94)) t_183_94
noncomputable def n_183_90 : e_Y := u_if y_le0 (u_old2 (o_ifgt 97 93) 97 (u_at 97) n_183_93) (u_at 97) n_183_93
theorem t_183_90 : e_Sn 183 90 (e_un n_183_90) := u_ifgtT rfl (s_ifgt (off := (7)) hq_183 (by decide +kernel) rfl rfl : e_Sn 183 90 (o_ifgt 97 93)) u_atT t_183_93
noncomputable def n_183_89 : e_Y := u_old (o_lcmp 90) n_183_90
theorem t_183_89 : e_Sn 183 89 (e_un n_183_89) := u_oldT (s_lcmp hq_183 (by decide +kernel) rfl : e_Sn 183 89 (o_lcmp 90)) t_183_90 e_cg_lcmp
noncomputable def n_183_88 : e_Y := u_push (e_L 9223372036854775808) n_183_89
theorem t_183_88 : e_Sn 183 88 (e_un n_183_88) := u_pushT (s_lconst (n := 0) hq_183 (by decide +kernel) rfl ⟨by decide +kernel, by decide +kernel⟩ : e_Sn 183 88 (o_push (e_L 9223372036854775808) 89)) t_183_89
noncomputable def n_183_86 : e_Y := u_old (o_load e_okL 4 88) n_183_88
theorem t_183_86 : e_Sn 183 86 (e_un n_183_86) := u_oldT (s_lload (i := .lload 4) (len := 2) hq_183 (by decide +kernel) rfl (.inl ⟨rfl, rfl⟩) : e_Sn 183 86 (o_load e_okL 4 88)) t_183_88 e_congr_load
noncomputable def n_183_83 : e_Y := n_183_98
theorem t_183_83 : e_Sn 183 83 (e_un n_183_83) := u_gotoT (s_goto (off := (15)) hq_183 (by decide +kernel) rfl : e_Sn 183 83 (o_goto 98)) t_183_98
noncomputable def n_183_82 : e_Y := u_push (.inl 2147483648) n_183_83
theorem t_183_82 : e_Sn 183 82 (e_un n_183_82) := u_pushT (s_iconst (n := (0)) hq_183 (by decide +kernel) rfl ⟨by decide +kernel, by decide +kernel⟩ : e_Sn 183 82 (o_push (.inl 2147483648) 83)) t_183_83
noncomputable def n_183_75 : e_Y := u_if y_ge0 (u_old2 (o_iflt 82 78) 82 n_183_82 (u_at 78)) n_183_82 (u_at 78)
theorem t_183_75 : e_Sn 183 75 (e_un n_183_75) := u_ifltT rfl (s_iflt (off := (7)) hq_183 (by decide +kernel) rfl rfl : e_Sn 183 75 (o_iflt 82 78)) t_183_82 u_atT
noncomputable def n_183_74 : e_Y := u_old (o_lcmp 75) n_183_75
theorem t_183_74 : e_Sn 183 74 (e_un n_183_74) := u_oldT (s_lcmp hq_183 (by decide +kernel) rfl : e_Sn 183 74 (o_lcmp 75)) t_183_75 e_cg_lcmp
noncomputable def n_183_73 : e_Y := u_push (e_L 9223372036854775808) n_183_74
theorem t_183_73 : e_Sn 183 73 (e_un n_183_73) := u_pushT (s_lconst (n := 0) hq_183 (by decide +kernel) rfl ⟨by decide +kernel, by decide +kernel⟩ : e_Sn 183 73 (o_push (e_L 9223372036854775808) 74)) t_183_74
noncomputable def n_183_71 : e_Y := u_old (o_load e_okL 4 73) n_183_73
theorem t_183_71 : e_Sn 183 71 (e_un n_183_71) := u_oldT (s_lload (i := .lload 4) (len := 2) hq_183 (by decide +kernel) rfl (.inl ⟨rfl, rfl⟩) : e_Sn 183 71 (o_load e_okL 4 73)) t_183_73 e_congr_load
noncomputable def n_183_68 : e_Y := u_jmp y_le (u_old2 (o_cgt 71 86) 71 n_183_71 n_183_86) n_183_71 n_183_86
theorem t_183_68 : e_Sn 183 68 (e_un n_183_68) := u_cgtT rfl (s_cle (off := (18)) hq_183 (by decide +kernel) rfl rfl : e_Sn 183 68 (o_cgt 71 86)) t_183_71 t_183_86
noncomputable def n_183_67 : e_Y := u_ald 0 (u_old (o_ald e_fcs 68) n_183_68) n_183_68
theorem t_183_67 : e_Sn 183 67 (e_un n_183_67) := u_aldT (s_iald hq_183 (by decide +kernel) rfl : e_Sn 183 67 (o_ald e_fcs 68)) t_183_68
noncomputable def n_183_66 : e_Y := u_push (.inl 2147483649) n_183_67
theorem t_183_66 : e_Sn 183 66 (e_un n_183_66) := u_pushT (s_iconst (n := (1)) hq_183 (by decide +kernel) rfl ⟨by decide +kernel, by decide +kernel⟩ : e_Sn 183 66 (o_push (.inl 2147483649) 67)) t_183_67
noncomputable def n_183_65 : e_Y := u_ld f_okA f_l0 n_183_66
theorem t_183_65 : e_Sn 183 65 (e_un n_183_65) := u_ldAT f_l0_eq (s_aload (i := .aload_n 0) (len := 1) hq_183 (by decide +kernel) rfl (.inr ⟨0, rfl, rfl, rfl⟩) : e_Sn 183 65 (o_load e_okR 0 66)) t_183_66
noncomputable def n_183_64 : e_Y := u_ald 0 (u_old (o_ald e_fcs 65) n_183_65) n_183_65
theorem t_183_64 : e_Sn 183 64 (e_un n_183_64) := u_aldT (s_iald hq_183 (by decide +kernel) rfl : e_Sn 183 64 (o_ald e_fcs 65)) t_183_65
noncomputable def n_183_63 : e_Y := u_push (.inl 2147483649) n_183_64
theorem t_183_63 : e_Sn 183 63 (e_un n_183_63) := u_pushT (s_iconst (n := (1)) hq_183 (by decide +kernel) rfl ⟨by decide +kernel, by decide +kernel⟩ : e_Sn 183 63 (o_push (.inl 2147483649) 64)) t_183_64
noncomputable def n_183_62 : e_Y := u_ld f_okA f_l1 n_183_63
theorem t_183_62 : e_Sn 183 62 (e_un n_183_62) := u_ldAT f_l1_eq (s_aload (i := .aload_n 1) (len := 1) hq_183 (by decide +kernel) rfl (.inr ⟨1, rfl, rfl, rfl⟩) : e_Sn 183 62 (o_load e_okR 1 63)) t_183_63
noncomputable def n_183_60 : e_Y := u_old (o_storeL 4 62) n_183_62
theorem t_183_60 : e_Sn 183 60 (e_un n_183_60) := u_oldT (s_lstore (i := .lstore 4) (len := 2) hq_183 (by decide +kernel) rfl (.inl ⟨rfl, rfl⟩) : e_Sn 183 60 (o_storeL 4 62)) t_183_62 (e_cg_storeL 4)
noncomputable def n_183_59 : e_Y := u_old (o_lsub 60) n_183_60
theorem t_183_59 : e_Sn 183 59 (e_un n_183_59) := u_oldT (s_lsub hq_183 (by decide +kernel) rfl : e_Sn 183 59 (o_lsub 60)) t_183_60 e_cg_lsub
noncomputable def n_183_58 : e_Y := u_old (o_lmul 59) n_183_59
theorem t_183_58 : e_Sn 183 58 (e_un n_183_58) := u_oldT (s_lmul hq_183 (by decide +kernel) rfl : e_Sn 183 58 (o_lmul 59)) t_183_59 e_cg_lmul
noncomputable def n_183_57 : e_Y := u_old (o_i2l 58) n_183_58
theorem t_183_57 : e_Sn 183 57 (e_un n_183_57) := u_oldT (s_i2l hq_183 (by decide +kernel) rfl : e_Sn 183 57 (o_i2l 58)) t_183_58 e_congr_i2l
noncomputable def n_183_56 : e_Y := u_bin a_isub (u_old (o_isub 57) n_183_57) n_183_57
theorem t_183_56 : e_Sn 183 56 (e_un n_183_56) := u_isubT (s_isub hq_183 (by decide +kernel) rfl : e_Sn 183 56 (o_isub 57)) t_183_57
noncomputable def n_183_55 : e_Y := u_ald 0 (u_old (o_ald e_fcs 56) n_183_56) n_183_56
theorem t_183_55 : e_Sn 183 55 (e_un n_183_55) := u_aldT (s_iald hq_183 (by decide +kernel) rfl : e_Sn 183 55 (o_ald e_fcs 56)) t_183_56
noncomputable def n_183_54 : e_Y := u_push (.inl 2147483648) n_183_55
theorem t_183_54 : e_Sn 183 54 (e_un n_183_54) := u_pushT (s_iconst (n := (0)) hq_183 (by decide +kernel) rfl ⟨by decide +kernel, by decide +kernel⟩ : e_Sn 183 54 (o_push (.inl 2147483648) 55)) t_183_55
noncomputable def n_183_53 : e_Y := u_ld f_okA f_l0 n_183_54
theorem t_183_53 : e_Sn 183 53 (e_un n_183_53) := u_ldAT f_l0_eq (s_aload (i := .aload_n 0) (len := 1) hq_183 (by decide +kernel) rfl (.inr ⟨0, rfl, rfl, rfl⟩) : e_Sn 183 53 (o_load e_okR 0 54)) t_183_54
noncomputable def n_183_52 : e_Y := u_ald 0 (u_old (o_ald e_fcs 53) n_183_53) n_183_53
theorem t_183_52 : e_Sn 183 52 (e_un n_183_52) := u_aldT (s_iald hq_183 (by decide +kernel) rfl : e_Sn 183 52 (o_ald e_fcs 53)) t_183_53
noncomputable def n_183_51 : e_Y := u_push (.inl 2147483648) n_183_52
theorem t_183_51 : e_Sn 183 51 (e_un n_183_51) := u_pushT (s_iconst (n := (0)) hq_183 (by decide +kernel) rfl ⟨by decide +kernel, by decide +kernel⟩ : e_Sn 183 51 (o_push (.inl 2147483648) 52)) t_183_52
noncomputable def n_183_50 : e_Y := u_ld f_okA f_l1 n_183_51
theorem t_183_50 : e_Sn 183 50 (e_un n_183_50) := u_ldAT f_l1_eq (s_aload (i := .aload_n 1) (len := 1) hq_183 (by decide +kernel) rfl (.inr ⟨1, rfl, rfl, rfl⟩) : e_Sn 183 50 (o_load e_okR 1 51)) t_183_51
noncomputable def n_183_49 : e_Y := u_old (o_i2l 50) n_183_50
theorem t_183_49 : e_Sn 183 49 (e_un n_183_49) := u_oldT (s_i2l hq_183 (by decide +kernel) rfl : e_Sn 183 49 (o_i2l 50)) t_183_50 e_congr_i2l
noncomputable def n_183_48 : e_Y := u_bin a_isub (u_old (o_isub 49) n_183_49) n_183_49
theorem t_183_48 : e_Sn 183 48 (e_un n_183_48) := u_isubT (s_isub hq_183 (by decide +kernel) rfl : e_Sn 183 48 (o_isub 49)) t_183_49
noncomputable def n_183_47 : e_Y := u_ald 0 (u_old (o_ald e_fcs 48) n_183_48) n_183_48
theorem t_183_47 : e_Sn 183 47 (e_un n_183_47) := u_aldT (s_iald hq_183 (by decide +kernel) rfl : e_Sn 183 47 (o_ald e_fcs 48)) t_183_48
noncomputable def n_183_46 : e_Y := u_push (.inl 2147483649) n_183_47
theorem t_183_46 : e_Sn 183 46 (e_un n_183_46) := u_pushT (s_iconst (n := (1)) hq_183 (by decide +kernel) rfl ⟨by decide +kernel, by decide +kernel⟩ : e_Sn 183 46 (o_push (.inl 2147483649) 47)) t_183_47
noncomputable def n_183_45 : e_Y := u_ld f_okA f_l0 n_183_46
theorem t_183_45 : e_Sn 183 45 (e_un n_183_45) := u_ldAT f_l0_eq (s_aload (i := .aload_n 0) (len := 1) hq_183 (by decide +kernel) rfl (.inr ⟨0, rfl, rfl, rfl⟩) : e_Sn 183 45 (o_load e_okR 0 46)) t_183_46
noncomputable def n_183_44 : e_Y := u_ld f_okI f_l3 n_183_45
theorem t_183_44 : e_Sn 183 44 (e_un n_183_44) := u_ldIT f_l3_eq (s_iload (i := .iload_n 3) (len := 1) hq_183 (by decide +kernel) rfl (.inr ⟨3, rfl, rfl, rfl⟩) : e_Sn 183 44 (o_load e_okI 3 45)) t_183_45
noncomputable def n_183_43 : e_Y := u_old (o_lmul 44) n_183_44
theorem t_183_43 : e_Sn 183 43 (e_un n_183_43) := u_oldT (s_lmul hq_183 (by decide +kernel) rfl : e_Sn 183 43 (o_lmul 44)) t_183_44 e_cg_lmul
noncomputable def n_183_42 : e_Y := u_old (o_i2l 43) n_183_43
theorem t_183_42 : e_Sn 183 42 (e_un n_183_42) := u_oldT (s_i2l hq_183 (by decide +kernel) rfl : e_Sn 183 42 (o_i2l 43)) t_183_43 e_congr_i2l
noncomputable def n_183_41 : e_Y := u_bin a_isub (u_old (o_isub 42) n_183_42) n_183_42
theorem t_183_41 : e_Sn 183 41 (e_un n_183_41) := u_isubT (s_isub hq_183 (by decide +kernel) rfl : e_Sn 183 41 (o_isub 42)) t_183_42
noncomputable def n_183_40 : e_Y := u_ald 0 (u_old (o_ald e_fcs 41) n_183_41) n_183_41
theorem t_183_40 : e_Sn 183 40 (e_un n_183_40) := u_aldT (s_iald hq_183 (by decide +kernel) rfl : e_Sn 183 40 (o_ald e_fcs 41)) t_183_41
noncomputable def n_183_39 : e_Y := u_push (.inl 2147483649) n_183_40
theorem t_183_39 : e_Sn 183 39 (e_un n_183_39) := u_pushT (s_iconst (n := (1)) hq_183 (by decide +kernel) rfl ⟨by decide +kernel, by decide +kernel⟩ : e_Sn 183 39 (o_push (.inl 2147483649) 40)) t_183_40
noncomputable def n_183_38 : e_Y := u_ld f_okA f_l0 n_183_39
theorem t_183_38 : e_Sn 183 38 (e_un n_183_38) := u_ldAT f_l0_eq (s_aload (i := .aload_n 0) (len := 1) hq_183 (by decide +kernel) rfl (.inr ⟨0, rfl, rfl, rfl⟩) : e_Sn 183 38 (o_load e_okR 0 39)) t_183_39
noncomputable def n_183_37 : e_Y := u_ald 0 (u_old (o_ald e_fcs 38) n_183_38) n_183_38
theorem t_183_37 : e_Sn 183 37 (e_un n_183_37) := u_aldT (s_iald hq_183 (by decide +kernel) rfl : e_Sn 183 37 (o_ald e_fcs 38)) t_183_38
noncomputable def n_183_36 : e_Y := u_push (.inl 2147483649) n_183_37
theorem t_183_36 : e_Sn 183 36 (e_un n_183_36) := u_pushT (s_iconst (n := (1)) hq_183 (by decide +kernel) rfl ⟨by decide +kernel, by decide +kernel⟩ : e_Sn 183 36 (o_push (.inl 2147483649) 37)) t_183_37
noncomputable def n_183_35 : e_Y := u_ld f_okA f_l1 n_183_36
theorem t_183_35 : e_Sn 183 35 (e_un n_183_35) := u_ldAT f_l1_eq (s_aload (i := .aload_n 1) (len := 1) hq_183 (by decide +kernel) rfl (.inr ⟨1, rfl, rfl, rfl⟩) : e_Sn 183 35 (o_load e_okR 1 36)) t_183_36
noncomputable def n_183_34 : e_Y := u_old (o_i2l 35) n_183_35
theorem t_183_34 : e_Sn 183 34 (e_un n_183_34) := u_oldT (s_i2l hq_183 (by decide +kernel) rfl : e_Sn 183 34 (o_i2l 35)) t_183_35 e_congr_i2l
noncomputable def n_183_33 : e_Y := u_bin a_isub (u_old (o_isub 34) n_183_34) n_183_34
theorem t_183_33 : e_Sn 183 33 (e_un n_183_33) := u_isubT (s_isub hq_183 (by decide +kernel) rfl : e_Sn 183 33 (o_isub 34)) t_183_34
noncomputable def n_183_32 : e_Y := u_ald 0 (u_old (o_ald e_fcs 33) n_183_33) n_183_33
theorem t_183_32 : e_Sn 183 32 (e_un n_183_32) := u_aldT (s_iald hq_183 (by decide +kernel) rfl : e_Sn 183 32 (o_ald e_fcs 33)) t_183_33
noncomputable def n_183_31 : e_Y := u_push (.inl 2147483648) n_183_32
theorem t_183_31 : e_Sn 183 31 (e_un n_183_31) := u_pushT (s_iconst (n := (0)) hq_183 (by decide +kernel) rfl ⟨by decide +kernel, by decide +kernel⟩ : e_Sn 183 31 (o_push (.inl 2147483648) 32)) t_183_32
noncomputable def n_183_30 : e_Y := u_ld f_okA f_l0 n_183_31
theorem t_183_30 : e_Sn 183 30 (e_un n_183_30) := u_ldAT f_l0_eq (s_aload (i := .aload_n 0) (len := 1) hq_183 (by decide +kernel) rfl (.inr ⟨0, rfl, rfl, rfl⟩) : e_Sn 183 30 (o_load e_okR 0 31)) t_183_31
noncomputable def n_183_29 : e_Y := u_ld f_okI f_l2 n_183_30
theorem t_183_29 : e_Sn 183 29 (e_un n_183_29) := u_ldIT f_l2_eq (s_iload (i := .iload_n 2) (len := 1) hq_183 (by decide +kernel) rfl (.inr ⟨2, rfl, rfl, rfl⟩) : e_Sn 183 29 (o_load e_okI 2 30)) t_183_30
noncomputable def n_183_28 : e_Y := u_retI
theorem t_183_28 : e_Sn 183 28 (e_un n_183_28) := u_retIT (s_iret hq_183 hr_183 (by decide +kernel) : e_Sn 183 28 (o_ret e_okI))
noncomputable def n_183_27 : e_Y := u_push (.inl 2147483648) n_183_28
theorem t_183_27 : e_Sn 183 27 (e_un n_183_27) := u_pushT (s_iconst (n := (0)) hq_183 (by decide +kernel) rfl ⟨by decide +kernel, by decide +kernel⟩ : e_Sn 183 27 (o_push (.inl 2147483648) 28)) t_183_28
noncomputable def n_183_24 : e_Y := u_jmp y_ne (u_old2 (o_ceq 27 29) 27 n_183_27 n_183_29) n_183_27 n_183_29
theorem t_183_24 : e_Sn 183 24 (e_un n_183_24) := u_ceqT rfl (s_cne (off := (5)) hq_183 (by decide +kernel) rfl rfl : e_Sn 183 24 (o_ceq 27 29)) t_183_27 t_183_29
noncomputable def n_183_23 : e_Y := u_push (.inl 2147483648) n_183_24
theorem t_183_23 : e_Sn 183 23 (e_un n_183_23) := u_pushT (s_iconst (n := (0)) hq_183 (by decide +kernel) rfl ⟨by decide +kernel, by decide +kernel⟩ : e_Sn 183 23 (o_push (.inl 2147483648) 24)) t_183_24
noncomputable def n_183_20 : e_Y := n_183_24
theorem t_183_20 : e_Sn 183 20 (e_un n_183_20) := u_gotoT (s_goto (off := (4)) hq_183 (by decide +kernel) rfl : e_Sn 183 20 (o_goto 24)) t_183_24
noncomputable def n_183_19 : e_Y := u_push (.inl 2147483649) n_183_20
theorem t_183_19 : e_Sn 183 19 (e_un n_183_19) := u_pushT (s_iconst (n := (1)) hq_183 (by decide +kernel) rfl ⟨by decide +kernel, by decide +kernel⟩ : e_Sn 183 19 (o_push (.inl 2147483649) 20)) t_183_20
noncomputable def n_183_16 : e_Y := u_jmp y_le (u_old2 (o_cgt 23 19) 23 n_183_23 n_183_19) n_183_23 n_183_19
theorem t_183_16 : e_Sn 183 16 (e_un n_183_16) := u_cgtT rfl (s_cgt (off := (7)) hq_183 (by decide +kernel) rfl rfl : e_Sn 183 16 (o_cgt 23 19)) t_183_23 t_183_19
noncomputable def n_183_15 : e_Y := u_ld f_okI f_l3 n_183_16
theorem t_183_15 : e_Sn 183 15 (e_un n_183_15) := u_ldIT f_l3_eq (s_iload (i := .iload_n 3) (len := 1) hq_183 (by decide +kernel) rfl (.inr ⟨3, rfl, rfl, rfl⟩) : e_Sn 183 15 (o_load e_okI 3 16)) t_183_16
noncomputable def n_183_14 : e_Y := u_ald 0 (u_old (o_ald e_fcs 15) n_183_15) n_183_15
theorem t_183_14 : e_Sn 183 14 (e_un n_183_14) := u_aldT (s_iald hq_183 (by decide +kernel) rfl : e_Sn 183 14 (o_ald e_fcs 15)) t_183_15
noncomputable def n_183_13 : e_Y := u_push (.inl 2147483649) n_183_14
theorem t_183_13 : e_Sn 183 13 (e_un n_183_13) := u_pushT (s_iconst (n := (1)) hq_183 (by decide +kernel) rfl ⟨by decide +kernel, by decide +kernel⟩ : e_Sn 183 13 (o_push (.inl 2147483649) 14)) t_183_14
noncomputable def n_183_12 : e_Y := u_ld f_okA f_l1 n_183_13
theorem t_183_12 : e_Sn 183 12 (e_un n_183_12) := u_ldAT f_l1_eq (s_aload (i := .aload_n 1) (len := 1) hq_183 (by decide +kernel) rfl (.inr ⟨1, rfl, rfl, rfl⟩) : e_Sn 183 12 (o_load e_okR 1 13)) t_183_13
noncomputable def n_183_11 : e_Y := u_push (.inl 2147483648) n_183_12
theorem t_183_11 : e_Sn 183 11 (e_un n_183_11) := u_pushT (s_iconst (n := (0)) hq_183 (by decide +kernel) rfl ⟨by decide +kernel, by decide +kernel⟩ : e_Sn 183 11 (o_push (.inl 2147483648) 12)) t_183_12
noncomputable def n_183_8 : e_Y := n_183_12
theorem t_183_8 : e_Sn 183 8 (e_un n_183_8) := u_gotoT (s_goto (off := (4)) hq_183 (by decide +kernel) rfl : e_Sn 183 8 (o_goto 12)) t_183_12
noncomputable def n_183_7 : e_Y := u_push (.inl 2147483649) n_183_8
theorem t_183_7 : e_Sn 183 7 (e_un n_183_7) := u_pushT (s_iconst (n := (1)) hq_183 (by decide +kernel) rfl ⟨by decide +kernel, by decide +kernel⟩ : e_Sn 183 7 (o_push (.inl 2147483649) 8)) t_183_8
noncomputable def n_183_4 : e_Y := u_jmp y_le (u_old2 (o_cgt 11 7) 11 n_183_11 n_183_7) n_183_11 n_183_7
theorem t_183_4 : e_Sn 183 4 (e_un n_183_4) := u_cgtT rfl (s_cgt (off := (7)) hq_183 (by decide +kernel) rfl rfl : e_Sn 183 4 (o_cgt 11 7)) t_183_11 t_183_7
noncomputable def n_183_3 : e_Y := u_ld f_okI f_l3 n_183_4
theorem t_183_3 : e_Sn 183 3 (e_un n_183_3) := u_ldIT f_l3_eq (s_iload (i := .iload_n 3) (len := 1) hq_183 (by decide +kernel) rfl (.inr ⟨3, rfl, rfl, rfl⟩) : e_Sn 183 3 (o_load e_okI 3 4)) t_183_4
noncomputable def n_183_2 : e_Y := u_ald 0 (u_old (o_ald e_fcs 3) n_183_3) n_183_3
theorem t_183_2 : e_Sn 183 2 (e_un n_183_2) := u_aldT (s_iald hq_183 (by decide +kernel) rfl : e_Sn 183 2 (o_ald e_fcs 3)) t_183_3
noncomputable def n_183_1 : e_Y := u_push (.inl 2147483649) n_183_2
theorem t_183_1 : e_Sn 183 1 (e_un n_183_1) := u_pushT (s_iconst (n := (1)) hq_183 (by decide +kernel) rfl ⟨by decide +kernel, by decide +kernel⟩ : e_Sn 183 1 (o_push (.inl 2147483649) 2)) t_183_2
noncomputable def n_183_0 : e_Y := u_ld f_okA f_l0 n_183_1
theorem t_183_0 : e_Sn 183 0 (e_un n_183_0) := u_ldAT f_l0_eq (s_aload (i := .aload_n 0) (len := 1) hq_183 (by decide +kernel) rfl (.inr ⟨0, rfl, rfl, rfl⟩) : e_Sn 183 0 (o_load e_okR 0 1)) t_183_1
noncomputable def e_tb_183 : e_X := (e_lf 0 (e_un n_183_0))
theorem e_tk_183 : e_Tb 183 e_tb_183 := (e_lfT t_183_0)
theorem hq_216 : (e_ml[216]?).map (·.2.1) = some prog_37_method_59_code := rfl
theorem ho_216 : (e_ml[216]?).map (·.1.cls) = some "java/lang/Math" := rfl
theorem hr_216 : (e_ml[216]?).map (·.2.2.2) = some (some .int) := rfl
noncomputable def n_216_10 : e_Y := u_retI
theorem t_216_10 : e_Sn 216 10 (e_un n_216_10) := u_retIT (s_iret hq_216 hr_216 (by decide +kernel) : e_Sn 216 10 (o_ret e_okI))
noncomputable def n_216_9 : e_Y := u_ld f_okI f_l0 n_216_10
theorem t_216_9 : e_Sn 216 9 (e_un n_216_9) := u_ldIT f_l0_eq (s_iload (i := .iload_n 0) (len := 1) hq_216 (by decide +kernel) rfl (.inr ⟨0, rfl, rfl, rfl⟩) : e_Sn 216 9 (o_load e_okI 0 10)) t_216_10
noncomputable def n_216_6 : e_Y := n_216_10
theorem t_216_6 : e_Sn 216 6 (e_un n_216_6) := u_gotoT (s_goto (off := (4)) hq_216 (by decide +kernel) rfl : e_Sn 216 6 (o_goto 10)) t_216_10
noncomputable def n_216_5 : e_Y := u_old (o_ineg 6) n_216_6
theorem t_216_5 : e_Sn 216 5 (e_un n_216_5) := u_oldT (s_ineg hq_216 (by decide +kernel) rfl : e_Sn 216 5 (o_ineg 6)) t_216_6 e_cg_ineg
noncomputable def n_216_4 : e_Y := u_ld f_okI f_l0 n_216_5
theorem t_216_4 : e_Sn 216 4 (e_un n_216_4) := u_ldIT f_l0_eq (s_iload (i := .iload_n 0) (len := 1) hq_216 (by decide +kernel) rfl (.inr ⟨0, rfl, rfl, rfl⟩) : e_Sn 216 4 (o_load e_okI 0 5)) t_216_5
noncomputable def n_216_1 : e_Y := u_if y_ge0 (u_old2 (o_iflt 4 9) 4 n_216_4 n_216_9) n_216_4 n_216_9
theorem t_216_1 : e_Sn 216 1 (e_un n_216_1) := u_ifltT rfl (s_ifge (off := (8)) hq_216 (by decide +kernel) rfl rfl : e_Sn 216 1 (o_iflt 4 9)) t_216_4 t_216_9
noncomputable def n_216_0 : e_Y := u_ld f_okI f_l0 n_216_1
theorem t_216_0 : e_Sn 216 0 (e_un n_216_0) := u_ldIT f_l0_eq (s_iload (i := .iload_n 0) (len := 1) hq_216 (by decide +kernel) rfl (.inr ⟨0, rfl, rfl, rfl⟩) : e_Sn 216 0 (o_load e_okI 0 1)) t_216_1
noncomputable def e_tb_216 : e_X := (e_lf 0 (e_un n_216_0))
theorem e_tk_216 : e_Tb 216 e_tb_216 := (e_lfT t_216_0)
theorem hq_225 : (e_ml[225]?).map (·.2.1) = some prog_50_method_18_code := rfl
theorem ho_225 : (e_ml[225]?).map (·.1.cls) = some "java/util/ArrayList" := rfl
theorem hr_225 : (e_ml[225]?).map (·.2.2.2) = some (some (.object "java/lang/Object")) := rfl
noncomputable def n_225_6 : e_Y := u_retA
theorem t_225_6 : e_Sn 225 6 (e_un n_225_6) := u_retAT (s_aret (.inl ⟨_, rfl⟩) hq_225 hr_225 (by decide +kernel) : e_Sn 225 6 (o_ret e_okR))
noncomputable def n_225_5 : e_Y := u_ald 3 (u_old (o_aldO 3 6) n_225_6) n_225_6
theorem t_225_5 : e_Sn 225 5 (e_un n_225_5) := u_aldOT (s_aald (tc := 0) rfl hq_225 (by decide +kernel) rfl : e_Sn 225 5 (o_aldO 3 6)) t_225_6
noncomputable def n_225_4 : e_Y := u_ld f_okI f_l1 n_225_5
theorem t_225_4 : e_Sn 225 4 (e_un n_225_4) := u_ldIT f_l1_eq (s_iload (i := .iload_n 1) (len := 1) hq_225 (by decide +kernel) rfl (.inr ⟨1, rfl, rfl, rfl⟩) : e_Sn 225 4 (o_load e_okI 1 5)) t_225_5
noncomputable def n_225_1 : e_Y := u_getf 18 0 (u_old (o_getf (e_f1 18 0) 4) n_225_4) n_225_4
theorem t_225_1 : e_Sn 225 1 (e_un n_225_1) := u_getfT (s_getf (C := er_18) (T := et_18) (N := 3) (ref := "java/util/ArrayList") (index := 9) (ci := 18) (k := 0) hq_225 ho_225 ⟨rfl, by decide, ei_18, (List.mem_of_getElem? (i := 1764) (by decide +kernel)), .inl rfl⟩ (by decide +kernel) rfl : e_Sn 225 1 (o_getf (e_f1 18 0) 4)) t_225_4
noncomputable def n_225_0 : e_Y := u_ld f_okA f_l0 n_225_1
theorem t_225_0 : e_Sn 225 0 (e_un n_225_0) := u_ldAT f_l0_eq (s_aload (i := .aload_n 0) (len := 1) hq_225 (by decide +kernel) rfl (.inr ⟨0, rfl, rfl, rfl⟩) : e_Sn 225 0 (o_load e_okR 0 1)) t_225_1
noncomputable def e_tb_225 : e_X := (e_lf 0 (e_un n_225_0))
theorem e_tk_225 : e_Tb 225 e_tb_225 := (e_lfT t_225_0)
theorem hq_239 : (e_ml[239]?).map (·.2.1) = some prog_60_method_11_code := rfl
theorem ho_239 : (e_ml[239]?).map (·.1.cls) = some "jdk/internal/util/Preconditions" := rfl
theorem hr_239 : (e_ml[239]?).map (·.2.2.2) = some (some .int) := rfl
noncomputable def n_239_17 : e_Y := u_retI
theorem t_239_17 : e_Sn 239 17 (e_un n_239_17) := u_retIT (s_iret hq_239 hr_239 (by decide +kernel) : e_Sn 239 17 (o_ret e_okI))
noncomputable def n_239_16 : e_Y := u_ld f_okI f_l0 n_239_17
theorem t_239_16 : e_Sn 239 16 (e_un n_239_16) := u_ldIT f_l0_eq (s_iload (i := .iload_n 0) (len := 1) hq_239 (by decide +kernel) rfl (.inr ⟨0, rfl, rfl, rfl⟩) : e_Sn 239 16 (o_load e_okI 0 17)) t_239_17
noncomputable def n_239_6 : e_Y := u_jmp y_ge (u_old2 (o_clt 16 9) 16 n_239_16 (u_at 9)) n_239_16 (u_at 9)
theorem t_239_6 : e_Sn 239 6 (e_un n_239_6) := u_cltT rfl (s_clt (off := (10)) hq_239 (by decide +kernel) rfl rfl : e_Sn 239 6 (o_clt 16 9)) t_239_16 u_atT
noncomputable def n_239_5 : e_Y := u_ld f_okI f_l1 n_239_6
theorem t_239_5 : e_Sn 239 5 (e_un n_239_5) := u_ldIT f_l1_eq (s_iload (i := .iload_n 1) (len := 1) hq_239 (by decide +kernel) rfl (.inr ⟨1, rfl, rfl, rfl⟩) : e_Sn 239 5 (o_load e_okI 1 6)) t_239_6
noncomputable def n_239_4 : e_Y := u_ld f_okI f_l0 n_239_5
theorem t_239_4 : e_Sn 239 4 (e_un n_239_4) := u_ldIT f_l0_eq (s_iload (i := .iload_n 0) (len := 1) hq_239 (by decide +kernel) rfl (.inr ⟨0, rfl, rfl, rfl⟩) : e_Sn 239 4 (o_load e_okI 0 5)) t_239_5
noncomputable def n_239_1 : e_Y := u_if y_ge0 (u_old2 (o_iflt 9 4) 9 (u_at 9) n_239_4) (u_at 9) n_239_4
theorem t_239_1 : e_Sn 239 1 (e_un n_239_1) := u_ifltT rfl (s_iflt (off := (8)) hq_239 (by decide +kernel) rfl rfl : e_Sn 239 1 (o_iflt 9 4)) u_atT t_239_4
noncomputable def n_239_0 : e_Y := u_ld f_okI f_l0 n_239_1
theorem t_239_0 : e_Sn 239 0 (e_un n_239_0) := u_ldIT f_l0_eq (s_iload (i := .iload_n 0) (len := 1) hq_239 (by decide +kernel) rfl (.inr ⟨0, rfl, rfl, rfl⟩) : e_Sn 239 0 (o_load e_okI 0 1)) t_239_1
noncomputable def e_tb_239 : e_X := (e_lf 0 (e_un n_239_0))
theorem e_tk_239 : e_Tb 239 e_tb_239 := (e_lfT t_239_0)
theorem hq_237 : (e_ml[237]?).map (·.2.1) = some prog_56_method_17_code := rfl
theorem ho_237 : (e_ml[237]?).map (·.1.cls) = some "java/util/Objects" := rfl
theorem hr_237 : (e_ml[237]?).map (·.2.2.2) = some (some .int) := rfl
noncomputable def n_237_6 : e_Y := u_retI
theorem t_237_6 : e_Sn 237 6 (e_un n_237_6) := u_retIT (s_iret hq_237 hr_237 (by decide +kernel) : e_Sn 237 6 (o_ret e_okI))
noncomputable def n_237_3 : e_Y := u_callS 239 3 22 3 n_239_0 n_237_6
theorem t_237_3 : e_Sn 237 3 (e_un n_237_3) := u_callST rfl (s_callS (index := 105) hq_237 ho_237 hy_239 hp_239 hc_239 hi_239 hd_239 (List.mem_of_getElem? (i := 2024) (by decide +kernel)) hs_239 (by decide +kernel) rfl : e_Sn 237 3 (o_callS 239 3 3 6)) t_239_0 t_237_6
noncomputable def n_237_2 : e_Y := u_push e_N n_237_3
theorem t_237_2 : e_Sn 237 2 (e_un n_237_2) := u_pushT (s_null hq_237 (by decide +kernel) rfl : e_Sn 237 2 (o_push e_N 3)) t_237_3
noncomputable def n_237_1 : e_Y := u_ld f_okI f_l1 n_237_2
theorem t_237_1 : e_Sn 237 1 (e_un n_237_1) := u_ldIT f_l1_eq (s_iload (i := .iload_n 1) (len := 1) hq_237 (by decide +kernel) rfl (.inr ⟨1, rfl, rfl, rfl⟩) : e_Sn 237 1 (o_load e_okI 1 2)) t_237_2
noncomputable def n_237_0 : e_Y := u_ld f_okI f_l0 n_237_1
theorem t_237_0 : e_Sn 237 0 (e_un n_237_0) := u_ldIT f_l0_eq (s_iload (i := .iload_n 0) (len := 1) hq_237 (by decide +kernel) rfl (.inr ⟨0, rfl, rfl, rfl⟩) : e_Sn 237 0 (o_load e_okI 0 1)) t_237_1
noncomputable def e_tb_237 : e_X := (e_lf 0 (e_un n_237_0))
theorem e_tk_237 : e_Tb 237 e_tb_237 := (e_lfT t_237_0)
theorem hq_227 : (e_ml[227]?).map (·.2.1) = some prog_50_method_20_code := rfl
theorem ho_227 : (e_ml[227]?).map (·.1.cls) = some "java/util/ArrayList" := rfl
theorem hr_227 : (e_ml[227]?).map (·.2.2.2) = some (some (.object "java/lang/Object")) := rfl
noncomputable def n_227_14 : e_Y := u_retA
theorem t_227_14 : e_Sn 227 14 (e_un n_227_14) := u_retAT (s_aret (.inl ⟨_, rfl⟩) hq_227 hr_227 (by decide +kernel) : e_Sn 227 14 (o_ret e_okR))
noncomputable def n_227_11 : e_Y := u_callV 18 225 2 21 2 n_225_0 n_227_14
theorem t_227_11 : e_Sn 227 11 (e_un n_227_11) := u_callVT rfl (s_callV (ci := 18) (C := er_18) (T := et_18) (N := 3) (index := 123) hq_227 ho_227 hy_225 hp_225 hc_225 hi_225 hd_225 (List.mem_of_getElem? (i := 2053) (by decide +kernel)) hs_225 (List.mem_of_getElem? (i := 2055) (by decide +kernel)) rfl (by decide +kernel) rfl : e_Sn 227 11 (o_callV (e_s1 18 225 2) 2 14)) t_225_0 t_227_14
noncomputable def n_227_10 : e_Y := u_ld f_okI f_l1 n_227_11
theorem t_227_10 : e_Sn 227 10 (e_un n_227_10) := u_ldIT f_l1_eq (s_iload (i := .iload_n 1) (len := 1) hq_227 (by decide +kernel) rfl (.inr ⟨1, rfl, rfl, rfl⟩) : e_Sn 227 10 (o_load e_okI 1 11)) t_227_11
noncomputable def n_227_9 : e_Y := u_ld f_okA f_l0 n_227_10
theorem t_227_9 : e_Sn 227 9 (e_un n_227_9) := u_ldAT f_l0_eq (s_aload (i := .aload_n 0) (len := 1) hq_227 (by decide +kernel) rfl (.inr ⟨0, rfl, rfl, rfl⟩) : e_Sn 227 9 (o_load e_okR 0 10)) t_227_10
noncomputable def n_227_8 : e_Y := u_pop n_227_9
theorem t_227_8 : e_Sn 227 8 (e_un n_227_8) := u_popT (s_pop hq_227 (by decide +kernel) rfl : e_Sn 227 8 (o_pop 9)) t_227_9
noncomputable def n_227_5 : e_Y := u_callS 237 2 21 2 n_237_0 n_227_8
theorem t_227_5 : e_Sn 227 5 (e_un n_227_5) := u_callST rfl (s_callS (index := 118) hq_227 ho_227 hy_237 hp_237 hc_237 hi_237 hd_237 (List.mem_of_getElem? (i := 2021) (by decide +kernel)) hs_237 (by decide +kernel) rfl : e_Sn 227 5 (o_callS 237 2 2 8)) t_237_0 t_227_8
noncomputable def n_227_2 : e_Y := u_getf 18 1 (u_old (o_getf (e_f1 18 1) 5) n_227_5) n_227_5
theorem t_227_2 : e_Sn 227 2 (e_un n_227_2) := u_getfT (s_getf (C := er_18) (T := et_18) (N := 3) (ref := "java/util/ArrayList") (index := 48) (ci := 18) (k := 1) hq_227 ho_227 ⟨rfl, by decide, ei_18, (List.mem_of_getElem? (i := 1767) (by decide +kernel)), .inl rfl⟩ (by decide +kernel) rfl : e_Sn 227 2 (o_getf (e_f1 18 1) 5)) t_227_5
noncomputable def n_227_1 : e_Y := u_ld f_okA f_l0 n_227_2
theorem t_227_1 : e_Sn 227 1 (e_un n_227_1) := u_ldAT f_l0_eq (s_aload (i := .aload_n 0) (len := 1) hq_227 (by decide +kernel) rfl (.inr ⟨0, rfl, rfl, rfl⟩) : e_Sn 227 1 (o_load e_okR 0 2)) t_227_2
noncomputable def n_227_0 : e_Y := u_ld f_okI f_l1 n_227_1
theorem t_227_0 : e_Sn 227 0 (e_un n_227_0) := u_ldIT f_l1_eq (s_iload (i := .iload_n 1) (len := 1) hq_227 (by decide +kernel) rfl (.inr ⟨1, rfl, rfl, rfl⟩) : e_Sn 227 0 (o_load e_okI 1 1)) t_227_1
noncomputable def e_tb_227 : e_X := (e_lf 0 (e_un n_227_0))
theorem e_tk_227 : e_Tb 227 e_tb_227 := (e_lfT t_227_0)
theorem hq_234 : (e_ml[234]?).map (·.2.1) = some prog_50_method_8_code := rfl
theorem ho_234 : (e_ml[234]?).map (·.1.cls) = some "java/util/ArrayList" := rfl
theorem hr_234 : (e_ml[234]?).map (·.2.2.2) = some (some .int) := rfl
noncomputable def n_234_4 : e_Y := u_retI
theorem t_234_4 : e_Sn 234 4 (e_un n_234_4) := u_retIT (s_iret hq_234 hr_234 (by decide +kernel) : e_Sn 234 4 (o_ret e_okI))
noncomputable def n_234_1 : e_Y := u_getf 18 1 (u_old (o_getf (e_f1 18 1) 4) n_234_4) n_234_4
theorem t_234_1 : e_Sn 234 1 (e_un n_234_1) := u_getfT (s_getf (C := er_18) (T := et_18) (N := 3) (ref := "java/util/ArrayList") (index := 48) (ci := 18) (k := 1) hq_234 ho_234 ⟨rfl, by decide, ei_18, (List.mem_of_getElem? (i := 1767) (by decide +kernel)), .inl rfl⟩ (by decide +kernel) rfl : e_Sn 234 1 (o_getf (e_f1 18 1) 4)) t_234_4
noncomputable def n_234_0 : e_Y := u_ld f_okA f_l0 n_234_1
theorem t_234_0 : e_Sn 234 0 (e_un n_234_0) := u_ldAT f_l0_eq (s_aload (i := .aload_n 0) (len := 1) hq_234 (by decide +kernel) rfl (.inr ⟨0, rfl, rfl, rfl⟩) : e_Sn 234 0 (o_load e_okR 0 1)) t_234_1
noncomputable def e_tb_234 : e_X := (e_lf 0 (e_un n_234_0))
theorem e_tk_234 : e_Tb 234 e_tb_234 := (e_lfT t_234_0)
theorem hq_155 : (e_ml[155]?).map (·.2.1) = some prog_14_method_54_code := rfl
theorem ho_155 : (e_ml[155]?).map (·.1.cls) = some "PlateroomprinterModel" := rfl
theorem hr_155 : (e_ml[155]?).map (·.2.2.2) = some (some .int) := rfl
noncomputable def n_155_20 : e_Y := u_retI
theorem t_155_20 : e_Sn 155 20 (e_un n_155_20) := u_retIT (s_iret hq_155 hr_155 (by decide +kernel) : e_Sn 155 20 (o_ret e_okI))
noncomputable def n_155_19 : e_Y := u_push (.inl 2147483648) n_155_20
theorem t_155_19 : e_Sn 155 19 (e_un n_155_19) := u_pushT (s_iconst (n := (0)) hq_155 (by decide +kernel) rfl ⟨by decide +kernel, by decide +kernel⟩ : e_Sn 155 19 (o_push (.inl 2147483648) 20)) t_155_20
noncomputable def n_155_16 : e_Y := u_tab (o_null 19 21)
theorem t_155_16 : e_Sn 155 16 (e_un n_155_16) := u_tabT (s_ifnonnull (off := (5)) hq_155 (by decide +kernel) rfl rfl : e_Sn 155 16 (o_null 19 21))
noncomputable def n_155_15 : e_Y := u_ld f_okA f_l3 n_155_16
theorem t_155_15 : e_Sn 155 15 (e_un n_155_15) := u_ldAT f_l3_eq (s_aload (i := .aload_n 3) (len := 1) hq_155 (by decide +kernel) rfl (.inr ⟨3, rfl, rfl, rfl⟩) : e_Sn 155 15 (o_load e_okR 3 16)) t_155_16
noncomputable def n_155_14 : e_Y := u_st f_okA f_s3 n_155_15
theorem t_155_14 : e_Sn 155 14 (e_un n_155_14) := u_stAT (fun _ _ _ => f_s3_eq) (s_astore (i := .astore_n 3) (len := 1) hq_155 (by decide +kernel) rfl (.inr ⟨3, rfl, rfl, rfl⟩) : e_Sn 155 14 (o_store e_okR 3 15)) t_155_15
noncomputable def n_155_11 : e_Y := u_old (o_cast 18 14) n_155_14
theorem t_155_11 : e_Sn 155 11 (e_un n_155_11) := u_oldT (s_cast (index := 16) hq_155 ho_155 (List.mem_of_getElem? (i := 1956) (by decide +kernel)) (.inl ⟨by decide, rfl⟩) (by decide +kernel) rfl : e_Sn 155 11 (o_cast 18 14)) t_155_14 (e_cg_cast 18)
noncomputable def n_155_8 : e_Y := u_callV 18 227 2 21 2 n_227_0 n_155_11
theorem t_155_8 : e_Sn 155 8 (e_un n_155_8) := u_callVT rfl (s_callV (ci := 18) (C := er_18) (T := et_18) (N := 3) (index := 78) hq_155 ho_155 hy_227 hp_227 hc_227 hi_227 hd_227 (List.mem_of_getElem? (i := 2066) (by decide +kernel)) hs_227 (List.mem_of_getElem? (i := 2051) (by decide +kernel)) rfl (by decide +kernel) rfl : e_Sn 155 8 (o_callV (e_s1 18 227 2) 2 11)) t_227_0 t_155_11
noncomputable def n_155_7 : e_Y := u_ld f_okI f_l1 n_155_8
theorem t_155_7 : e_Sn 155 7 (e_un n_155_7) := u_ldIT f_l1_eq (s_iload (i := .iload_n 1) (len := 1) hq_155 (by decide +kernel) rfl (.inr ⟨1, rfl, rfl, rfl⟩) : e_Sn 155 7 (o_load e_okI 1 8)) t_155_8
noncomputable def n_155_4 : e_Y := u_getf 13 4 (u_old (o_getf (e_f1 13 4) 7) n_155_7) n_155_7
theorem t_155_4 : e_Sn 155 4 (e_un n_155_4) := u_getfT (s_getf (C := er_13) (T := et_13) (N := 13) (ref := "PlateroomprinterModel$Machine") (index := 278) (ci := 13) (k := 4) hq_155 ho_155 ⟨rfl, by decide, ei_13, (List.mem_of_getElem? (i := 1904) (by decide +kernel)), .inl rfl⟩ (by decide +kernel) rfl : e_Sn 155 4 (o_getf (e_f1 13 4) 7)) t_155_7
noncomputable def n_155_1 : e_Y := u_getf 12 1 (u_old (o_getf (e_f1 12 1) 4) n_155_4) n_155_4
theorem t_155_1 : e_Sn 155 1 (e_un n_155_1) := u_getfT (s_getf (C := er_12) (T := et_12) (N := 5) (ref := "PlateroomprinterModel") (index := 10) (ci := 12) (k := 1) hq_155 ho_155 ⟨rfl, by decide, ei_12, (List.mem_of_getElem? (i := 1959) (by decide +kernel)), .inl rfl⟩ (by decide +kernel) rfl : e_Sn 155 1 (o_getf (e_f1 12 1) 4)) t_155_4
noncomputable def n_155_0 : e_Y := u_ld f_okA f_l0 n_155_1
theorem t_155_0 : e_Sn 155 0 (e_un n_155_0) := u_ldAT f_l0_eq (s_aload (i := .aload_n 0) (len := 1) hq_155 (by decide +kernel) rfl (.inr ⟨0, rfl, rfl, rfl⟩) : e_Sn 155 0 (o_load e_okR 0 1)) t_155_1
noncomputable def e_tb_155 : e_X := (e_br 19 (e_lf 0 (e_un n_155_0)) (e_lf 19 (e_un n_155_19)))
theorem e_tk_155 : e_Tb 155 e_tb_155 := (e_brT (e_lfT t_155_0) (e_lfT t_155_19))
theorem hq_137 : (e_ml[137]?).map (·.2.1) = some prog_14_method_13_code := rfl
theorem ho_137 : (e_ml[137]?).map (·.1.cls) = some "PlateroomprinterModel" := rfl
theorem hr_137 : (e_ml[137]?).map (·.2.2.2) = some (some (.object "java/util/ArrayList")) := rfl
noncomputable def n_137_46 : e_Y := u_retA
theorem t_137_46 : e_Sn 137 46 (e_un n_137_46) := u_retAT (s_aret (.inl ⟨_, rfl⟩) hq_137 hr_137 (by decide +kernel) : e_Sn 137 46 (o_ret e_okR))
noncomputable def n_137_45 : e_Y := u_ld f_okA f_l3 n_137_46
theorem t_137_45 : e_Sn 137 45 (e_un n_137_45) := u_ldAT f_l3_eq (s_aload (i := .aload_n 3) (len := 1) hq_137 (by decide +kernel) rfl (.inr ⟨3, rfl, rfl, rfl⟩) : e_Sn 137 45 (o_load e_okR 3 46)) t_137_46
noncomputable def n_137_17 : e_Y := u_jmp y_ge (u_old2 (o_clt 20 45) 20 (u_at 20) n_137_45) (u_at 20) n_137_45
theorem t_137_17 : e_Sn 137 17 (e_un n_137_17) := u_cltT rfl (s_cge (off := (28)) hq_137 (by decide +kernel) rfl rfl : e_Sn 137 17 (o_clt 20 45)) u_atT t_137_45
noncomputable def n_137_14 : e_Y := u_callV 18 234 1 20 1 n_234_0 n_137_17
theorem t_137_14 : e_Sn 137 14 (e_un n_137_14) := u_callVT rfl (s_callV (ci := 18) (C := er_18) (T := et_18) (N := 3) (index := 74) hq_137 ho_137 hy_234 hp_234 hc_234 hi_234 hd_234 (List.mem_of_getElem? (i := 2000) (by decide +kernel)) hs_234 (List.mem_of_getElem? (i := 2002) (by decide +kernel)) rfl (by decide +kernel) rfl : e_Sn 137 14 (o_callV (e_s1 18 234 1) 1 17)) t_234_0 t_137_17
noncomputable def n_137_13 : e_Y := u_ld f_okA f_l0 n_137_14
theorem t_137_13 : e_Sn 137 13 (e_un n_137_13) := u_ldAT f_l0_eq (s_aload (i := .aload_n 0) (len := 1) hq_137 (by decide +kernel) rfl (.inr ⟨0, rfl, rfl, rfl⟩) : e_Sn 137 13 (o_load e_okR 0 14)) t_137_14
noncomputable def n_137_11 : e_Y := u_ld f_okI f_l4 n_137_13
theorem t_137_11 : e_Sn 137 11 (e_un n_137_11) := u_ldIT f_l4_eq (s_iload (i := .iload 4) (len := 2) hq_137 (by decide +kernel) rfl (.inl ⟨rfl, rfl⟩) : e_Sn 137 11 (o_load e_okI 4 13)) t_137_13
noncomputable def n_137_9 : e_Y := u_st f_okI f_s4 n_137_11
theorem t_137_9 : e_Sn 137 9 (e_un n_137_9) := u_stIT (fun _ _ _ => f_s4_eq) (s_istore (i := .istore 4) (len := 2) hq_137 (by decide +kernel) rfl (.inl ⟨rfl, rfl⟩) : e_Sn 137 9 (o_store e_okI 4 11)) t_137_11
noncomputable def n_137_8 : e_Y := u_push (.inl 2147483648) n_137_9
theorem t_137_8 : e_Sn 137 8 (e_un n_137_8) := u_pushT (s_iconst (n := (0)) hq_137 (by decide +kernel) rfl ⟨by decide +kernel, by decide +kernel⟩ : e_Sn 137 8 (o_push (.inl 2147483648) 9)) t_137_9
noncomputable def n_137_7 : e_Y := u_st f_okA f_s3 n_137_8
theorem t_137_7 : e_Sn 137 7 (e_un n_137_7) := u_stAT (fun _ _ _ => f_s3_eq) (s_astore (i := .astore_n 3) (len := 1) hq_137 (by decide +kernel) rfl (.inr ⟨3, rfl, rfl, rfl⟩) : e_Sn 137 7 (o_store e_okR 3 8)) t_137_8
noncomputable def n_137_4 : e_Y := u_tab (o_callI 222 1 1 7)
theorem t_137_4 : e_Sn 137 4 (e_un n_137_4) := u_tabT (s_callI (index := 18) hq_137 ho_137 hy_222 hp_222 hc_222 hi_222 hd_222 (List.mem_of_getElem? (i := 1957) (by decide +kernel)) rfl rfl hs_222 (by decide +kernel) rfl : e_Sn 137 4 (o_callI 222 1 1 7))
noncomputable def n_137_3 : e_Y := u_old (o_dup 4) n_137_4
theorem t_137_3 : e_Sn 137 3 (e_un n_137_3) := u_oldT (s_dup hq_137 (by decide +kernel) rfl : e_Sn 137 3 (o_dup 4)) t_137_4 e_cg_dup
noncomputable def n_137_0 : e_Y := u_tab (o_new 18 3 ef_18 3)
theorem t_137_0 : e_Sn 137 0 (e_un n_137_0) := u_tabT (s_new (index := 16) (ci := 18) (N := 3) (C := er_18) (T := et_18) (ty0 := ey_18) (fv := eg_18) hq_137 ho_137 rfl ei_18 eo_18 (List.mem_of_getElem? (i := 1956) (by decide +kernel)) (List.mem_of_getElem? (i := 1751) (by decide +kernel)) (List.mem_of_getElem? (i := 155) (by decide +kernel)) eh_18 rfl (e_newrel ek_18) (by decide +kernel) rfl : e_Sn 137 0 (o_new 18 3 ef_18 3))
noncomputable def e_tb_137 : e_X := (e_br 3 (e_lf 0 (e_un n_137_0)) (e_br 7 (e_lf 3 (e_un n_137_3)) (e_lf 7 (e_un n_137_7))))
theorem e_tk_137 : e_Tb 137 e_tb_137 := (e_brT (e_lfT t_137_0) (e_brT (e_lfT t_137_3) (e_lfT t_137_7)))
theorem hq_180 : (e_ml[180]?).map (·.2.1) = some prog_14_method_3_code := rfl
theorem ho_180 : (e_ml[180]?).map (·.1.cls) = some "PlateroomprinterModel" := rfl
theorem hr_180 : (e_ml[180]?).map (·.2.2.2) = some (some .int) := rfl
noncomputable def n_180_9 : e_Y := u_retI
theorem t_180_9 : e_Sn 180 9 (e_un n_180_9) := u_retIT (s_iret hq_180 hr_180 (by decide +kernel) : e_Sn 180 9 (o_ret e_okI))
noncomputable def n_180_8 : e_Y := u_push (.inl 2147483648) n_180_9
theorem t_180_8 : e_Sn 180 8 (e_un n_180_8) := u_pushT (s_iconst (n := (0)) hq_180 (by decide +kernel) rfl ⟨by decide +kernel, by decide +kernel⟩ : e_Sn 180 8 (o_push (.inl 2147483648) 9)) t_180_9
noncomputable def n_180_5 : e_Y := n_180_9
theorem t_180_5 : e_Sn 180 5 (e_un n_180_5) := u_gotoT (s_goto (off := (4)) hq_180 (by decide +kernel) rfl : e_Sn 180 5 (o_goto 9)) t_180_9
noncomputable def n_180_4 : e_Y := u_push (.inl 2147483649) n_180_5
theorem t_180_4 : e_Sn 180 4 (e_un n_180_4) := u_pushT (s_iconst (n := (1)) hq_180 (by decide +kernel) rfl ⟨by decide +kernel, by decide +kernel⟩ : e_Sn 180 4 (o_push (.inl 2147483649) 5)) t_180_5
noncomputable def n_180_1 : e_Y := u_if y_ne0 (u_old2 (o_ifeq 8 4) 8 n_180_8 n_180_4) n_180_8 n_180_4
theorem t_180_1 : e_Sn 180 1 (e_un n_180_1) := u_ifeqT rfl (s_ifeq (off := (7)) hq_180 (by decide +kernel) rfl rfl : e_Sn 180 1 (o_ifeq 8 4)) t_180_8 t_180_4
noncomputable def n_180_0 : e_Y := u_ld f_okI f_l0 n_180_1
theorem t_180_0 : e_Sn 180 0 (e_un n_180_0) := u_ldIT f_l0_eq (s_iload (i := .iload_n 0) (len := 1) hq_180 (by decide +kernel) rfl (.inr ⟨0, rfl, rfl, rfl⟩) : e_Sn 180 0 (o_load e_okI 0 1)) t_180_1
noncomputable def e_tb_180 : e_X := (e_lf 0 (e_un n_180_0))
theorem e_tk_180 : e_Tb 180 e_tb_180 := (e_lfT t_180_0)
theorem hq_174 : (e_ml[174]?).map (·.2.1) = some prog_14_method_18_code := rfl
theorem ho_174 : (e_ml[174]?).map (·.1.cls) = some "PlateroomprinterModel" := rfl
theorem hr_174 : (e_ml[174]?).map (·.2.2.2) = some (some .int) := rfl
noncomputable def n_174_37 : e_Y := u_retI
theorem t_174_37 : e_Sn 174 37 (e_un n_174_37) := u_retIT (s_iret hq_174 hr_174 (by decide +kernel) : e_Sn 174 37 (o_ret e_okI))
noncomputable def n_174_36 : e_Y := u_ld f_okI f_l1 n_174_37
theorem t_174_36 : e_Sn 174 36 (e_un n_174_36) := u_ldIT f_l1_eq (s_iload (i := .iload_n 1) (len := 1) hq_174 (by decide +kernel) rfl (.inr ⟨1, rfl, rfl, rfl⟩) : e_Sn 174 36 (o_load e_okI 1 37)) t_174_37
noncomputable def n_174_33 : e_Y := (u_at 10)
theorem t_174_33 : e_Sn 174 33 (e_un n_174_33) := u_gotoT (s_goto (off := (-23)) hq_174 (by decide +kernel) rfl : e_Sn 174 33 (o_goto 10)) u_atT
noncomputable def n_174_30 : e_Y := u_inc f_l4 f_s4 1 n_174_33
theorem t_174_30 : e_Sn 174 30 (e_un n_174_30) := u_incT f_l4_eq (fun _ _ _ => f_s4_eq) (s_iinc (zz := (1)) hq_174 (by decide +kernel) rfl (by decide +kernel) ⟨by decide, by decide⟩ : e_Sn 174 30 (o_iinc 4 1 33)) t_174_33
noncomputable def n_174_29 : e_Y := u_st f_okI f_s1 n_174_30
theorem t_174_29 : e_Sn 174 29 (e_un n_174_29) := u_stIT (fun _ _ _ => f_s1_eq) (s_istore (i := .istore_n 1) (len := 1) hq_174 (by decide +kernel) rfl (.inr ⟨1, rfl, rfl, rfl⟩) : e_Sn 174 29 (o_store e_okI 1 30)) t_174_30
noncomputable def n_174_28 : e_Y := u_bin a_iadd (u_old (o_iadd 29) n_174_29) n_174_29
theorem t_174_28 : e_Sn 174 28 (e_un n_174_28) := u_iaddT (s_iadd hq_174 (by decide +kernel) rfl : e_Sn 174 28 (o_iadd 29)) t_174_29
noncomputable def n_174_25 : e_Y := u_callS 180 1 20 1 n_180_0 n_174_28
theorem t_174_25 : e_Sn 174 25 (e_un n_174_25) := u_callST rfl (s_callS (index := 107) hq_174 ho_174 hy_180 hp_180 hc_180 hi_180 hd_180 (List.mem_of_getElem? (i := 2482) (by decide +kernel)) hs_180 (by decide +kernel) rfl : e_Sn 174 25 (o_callS 180 1 1 28)) t_180_0 t_174_28
noncomputable def n_174_23 : e_Y := u_ld f_okI f_l5 n_174_25
theorem t_174_23 : e_Sn 174 23 (e_un n_174_23) := u_ldIT f_l5_eq (s_iload (i := .iload 5) (len := 2) hq_174 (by decide +kernel) rfl (.inl ⟨rfl, rfl⟩) : e_Sn 174 23 (o_load e_okI 5 25)) t_174_25
noncomputable def n_174_22 : e_Y := u_ld f_okI f_l1 n_174_23
theorem t_174_22 : e_Sn 174 22 (e_un n_174_22) := u_ldIT f_l1_eq (s_iload (i := .iload_n 1) (len := 1) hq_174 (by decide +kernel) rfl (.inr ⟨1, rfl, rfl, rfl⟩) : e_Sn 174 22 (o_load e_okI 1 23)) t_174_23
noncomputable def n_174_20 : e_Y := u_st f_okI f_s5 n_174_22
theorem t_174_20 : e_Sn 174 20 (e_un n_174_20) := u_stIT (fun _ _ _ => f_s5_eq) (s_istore (i := .istore 5) (len := 2) hq_174 (by decide +kernel) rfl (.inl ⟨rfl, rfl⟩) : e_Sn 174 20 (o_store e_okI 5 22)) t_174_22
noncomputable def n_174_19 : e_Y := u_ald 1 (u_old (o_aldO 1 20) n_174_20) n_174_20
theorem t_174_19 : e_Sn 174 19 (e_un n_174_19) := u_aldOT (s_zald hq_174 (by decide +kernel) rfl : e_Sn 174 19 (o_aldO 1 20)) t_174_20
noncomputable def n_174_17 : e_Y := u_ld f_okI f_l4 n_174_19
theorem t_174_17 : e_Sn 174 17 (e_un n_174_17) := u_ldIT f_l4_eq (s_iload (i := .iload 4) (len := 2) hq_174 (by decide +kernel) rfl (.inl ⟨rfl, rfl⟩) : e_Sn 174 17 (o_load e_okI 4 19)) t_174_19
noncomputable def n_174_16 : e_Y := u_ld f_okA f_l2 n_174_17
theorem t_174_16 : e_Sn 174 16 (e_un n_174_16) := u_ldAT f_l2_eq (s_aload (i := .aload_n 2) (len := 1) hq_174 (by decide +kernel) rfl (.inr ⟨2, rfl, rfl, rfl⟩) : e_Sn 174 16 (o_load e_okR 2 17)) t_174_17
noncomputable def n_174_13 : e_Y := u_jmp y_ge (u_old2 (o_clt 16 36) 16 n_174_16 n_174_36) n_174_16 n_174_36
theorem t_174_13 : e_Sn 174 13 (e_un n_174_13) := u_cltT rfl (s_cge (off := (23)) hq_174 (by decide +kernel) rfl rfl : e_Sn 174 13 (o_clt 16 36)) t_174_16 t_174_36
noncomputable def n_174_12 : e_Y := u_ld f_okI f_l3 n_174_13
theorem t_174_12 : e_Sn 174 12 (e_un n_174_12) := u_ldIT f_l3_eq (s_iload (i := .iload_n 3) (len := 1) hq_174 (by decide +kernel) rfl (.inr ⟨3, rfl, rfl, rfl⟩) : e_Sn 174 12 (o_load e_okI 3 13)) t_174_13
noncomputable def n_174_10 : e_Y := u_ld f_okI f_l4 n_174_12
theorem t_174_10 : e_Sn 174 10 (e_un n_174_10) := u_ldIT f_l4_eq (s_iload (i := .iload 4) (len := 2) hq_174 (by decide +kernel) rfl (.inl ⟨rfl, rfl⟩) : e_Sn 174 10 (o_load e_okI 4 12)) t_174_12
noncomputable def n_174_8 : e_Y := u_st f_okI f_s4 n_174_10
theorem t_174_8 : e_Sn 174 8 (e_un n_174_8) := u_stIT (fun _ _ _ => f_s4_eq) (s_istore (i := .istore 4) (len := 2) hq_174 (by decide +kernel) rfl (.inl ⟨rfl, rfl⟩) : e_Sn 174 8 (o_store e_okI 4 10)) t_174_10
noncomputable def n_174_7 : e_Y := u_push (.inl 2147483648) n_174_8
theorem t_174_7 : e_Sn 174 7 (e_un n_174_7) := u_pushT (s_iconst (n := (0)) hq_174 (by decide +kernel) rfl ⟨by decide +kernel, by decide +kernel⟩ : e_Sn 174 7 (o_push (.inl 2147483648) 8)) t_174_8
noncomputable def n_174_6 : e_Y := u_st f_okI f_s3 n_174_7
theorem t_174_6 : e_Sn 174 6 (e_un n_174_6) := u_stIT (fun _ _ _ => f_s3_eq) (s_istore (i := .istore_n 3) (len := 1) hq_174 (by decide +kernel) rfl (.inr ⟨3, rfl, rfl, rfl⟩) : e_Sn 174 6 (o_store e_okI 3 7)) t_174_7
noncomputable def n_174_5 : e_Y := u_old (o_alen e_fcs 6) n_174_6
theorem t_174_5 : e_Sn 174 5 (e_un n_174_5) := u_oldT (s_alen hq_174 (by decide +kernel) rfl : e_Sn 174 5 (o_alen e_fcs 6)) t_174_6 (e_cg_alen e_fcs)
noncomputable def n_174_4 : e_Y := u_ld f_okA f_l2 n_174_5
theorem t_174_4 : e_Sn 174 4 (e_un n_174_4) := u_ldAT f_l2_eq (s_aload (i := .aload_n 2) (len := 1) hq_174 (by decide +kernel) rfl (.inr ⟨2, rfl, rfl, rfl⟩) : e_Sn 174 4 (o_load e_okR 2 5)) t_174_5
noncomputable def n_174_3 : e_Y := u_st f_okA f_s2 n_174_4
theorem t_174_3 : e_Sn 174 3 (e_un n_174_3) := u_stAT (fun _ _ _ => f_s2_eq) (s_astore (i := .astore_n 2) (len := 1) hq_174 (by decide +kernel) rfl (.inr ⟨2, rfl, rfl, rfl⟩) : e_Sn 174 3 (o_store e_okR 2 4)) t_174_4
noncomputable def n_174_2 : e_Y := u_ld f_okA f_l0 n_174_3
theorem t_174_2 : e_Sn 174 2 (e_un n_174_2) := u_ldAT f_l0_eq (s_aload (i := .aload_n 0) (len := 1) hq_174 (by decide +kernel) rfl (.inr ⟨0, rfl, rfl, rfl⟩) : e_Sn 174 2 (o_load e_okR 0 3)) t_174_3
noncomputable def n_174_1 : e_Y := u_st f_okI f_s1 n_174_2
theorem t_174_1 : e_Sn 174 1 (e_un n_174_1) := u_stIT (fun _ _ _ => f_s1_eq) (s_istore (i := .istore_n 1) (len := 1) hq_174 (by decide +kernel) rfl (.inr ⟨1, rfl, rfl, rfl⟩) : e_Sn 174 1 (o_store e_okI 1 2)) t_174_2
noncomputable def n_174_0 : e_Y := u_push (.inl 2147483648) n_174_1
theorem t_174_0 : e_Sn 174 0 (e_un n_174_0) := u_pushT (s_iconst (n := (0)) hq_174 (by decide +kernel) rfl ⟨by decide +kernel, by decide +kernel⟩ : e_Sn 174 0 (o_push (.inl 2147483648) 1)) t_174_1
noncomputable def e_tb_174 : e_X := (e_br 10 (e_lf 0 (e_un n_174_0)) (e_lf 10 (e_un n_174_10)))
theorem e_tk_174 : e_Tb 174 e_tb_174 := (e_brT (e_lfT t_174_0) (e_lfT t_174_10))
theorem hq_184 : (e_ml[184]?).map (·.2.1) = some prog_14_method_48_code := rfl
theorem ho_184 : (e_ml[184]?).map (·.1.cls) = some "PlateroomprinterModel" := rfl
theorem hr_184 : (e_ml[184]?).map (·.2.2.2) = some (some (.object "java/util/ArrayList")) := rfl
noncomputable def n_184_10 : e_Y := u_retA
theorem t_184_10 : e_Sn 184 10 (e_un n_184_10) := u_retAT (s_aret (.inl ⟨_, rfl⟩) hq_184 hr_184 (by decide +kernel) : e_Sn 184 10 (o_ret e_okR))
noncomputable def n_184_7 : e_Y := u_getf 17 1 (u_old (o_getf (e_f1 17 1) 10) n_184_10) n_184_10
theorem t_184_7 : e_Sn 184 7 (e_un n_184_7) := u_getfT (s_getf (C := er_17) (T := et_17) (N := 6) (ref := "PlateroomprinterModel$State") (index := 231) (ci := 17) (k := 1) hq_184 ho_184 ⟨rfl, by decide, ei_17, (List.mem_of_getElem? (i := 1793) (by decide +kernel)), .inl rfl⟩ (by decide +kernel) rfl : e_Sn 184 7 (o_getf (e_f1 17 1) 10)) t_184_10
noncomputable def n_184_4 : e_Y := u_getf 13 2 (u_old (o_getf (e_f1 13 2) 7) n_184_7) n_184_7
theorem t_184_4 : e_Sn 184 4 (e_un n_184_4) := u_getfT (s_getf (C := er_13) (T := et_13) (N := 13) (ref := "PlateroomprinterModel$Machine") (index := 218) (ci := 13) (k := 2) hq_184 ho_184 ⟨rfl, by decide, ei_13, (List.mem_of_getElem? (i := 1898) (by decide +kernel)), .inl rfl⟩ (by decide +kernel) rfl : e_Sn 184 4 (o_getf (e_f1 13 2) 7)) t_184_7
noncomputable def n_184_1 : e_Y := u_getf 12 1 (u_old (o_getf (e_f1 12 1) 4) n_184_4) n_184_4
theorem t_184_1 : e_Sn 184 1 (e_un n_184_1) := u_getfT (s_getf (C := er_12) (T := et_12) (N := 5) (ref := "PlateroomprinterModel") (index := 10) (ci := 12) (k := 1) hq_184 ho_184 ⟨rfl, by decide, ei_12, (List.mem_of_getElem? (i := 1959) (by decide +kernel)), .inl rfl⟩ (by decide +kernel) rfl : e_Sn 184 1 (o_getf (e_f1 12 1) 4)) t_184_4
noncomputable def n_184_0 : e_Y := u_ld f_okA f_l0 n_184_1
theorem t_184_0 : e_Sn 184 0 (e_un n_184_0) := u_ldAT f_l0_eq (s_aload (i := .aload_n 0) (len := 1) hq_184 (by decide +kernel) rfl (.inr ⟨0, rfl, rfl, rfl⟩) : e_Sn 184 0 (o_load e_okR 0 1)) t_184_1
noncomputable def e_tb_184 : e_X := (e_lf 0 (e_un n_184_0))
theorem e_tk_184 : e_Tb 184 e_tb_184 := (e_lfT t_184_0)
theorem hq_206 : (e_ml[206]?).map (·.2.1) = some prog_18_method_1_code := rfl
theorem ho_206 : (e_ml[206]?).map (·.1.cls) = some "PlateroomprinterModel$Ring" := rfl
theorem hr_206 : (e_ml[206]?).map (·.2.2.2) = some none := rfl
noncomputable def n_206_15 : e_Y := u_tab (o_retv)
theorem t_206_15 : e_Sn 206 15 (e_un n_206_15) := u_tabT (s_vret hq_206 hr_206 (by decide +kernel) : e_Sn 206 15 (o_retv))
noncomputable def n_206_12 : e_Y := u_old (o_putf (e_f1 14 0) e_okR 15) n_206_15
theorem t_206_12 : e_Sn 206 12 (e_un n_206_12) := u_oldT (s_putf (ty0 := ey_14) (ok := e_okR) (C := er_14) (T := et_14) (N := 2) (ref := "PlateroomprinterModel$Ring") (index := 10) (ci := 14) (k := 0) hq_206 ho_206 ⟨rfl, by decide, ei_14, (List.mem_of_getElem? (i := 2080) (by decide +kernel)), .inl rfl⟩ eo_14 en_14 e_oksR (.inr ⟨rfl, rfl, rfl⟩) (by decide +kernel) rfl : e_Sn 206 12 (o_putf (e_f1 14 0) e_okR 15)) t_206_15 (e_cg_putf (e_f1 14 0) e_okR)
noncomputable def n_206_9 : e_Y := u_tab (o_callI 222 1 1 12)
theorem t_206_9 : e_Sn 206 9 (e_un n_206_9) := u_tabT (s_callI (index := 9) hq_206 ho_206 hy_222 hp_222 hc_222 hi_222 hd_222 (List.mem_of_getElem? (i := 2079) (by decide +kernel)) rfl rfl hs_222 (by decide +kernel) rfl : e_Sn 206 9 (o_callI 222 1 1 12))
noncomputable def n_206_8 : e_Y := u_old (o_dup 9) n_206_9
theorem t_206_8 : e_Sn 206 8 (e_un n_206_8) := u_oldT (s_dup hq_206 (by decide +kernel) rfl : e_Sn 206 8 (o_dup 9)) t_206_9 e_cg_dup
noncomputable def n_206_5 : e_Y := u_tab (o_new 18 3 ef_18 8)
theorem t_206_5 : e_Sn 206 5 (e_un n_206_5) := u_tabT (s_new (index := 7) (ci := 18) (N := 3) (C := er_18) (T := et_18) (ty0 := ey_18) (fv := eg_18) hq_206 ho_206 rfl ei_18 eo_18 (List.mem_of_getElem? (i := 2078) (by decide +kernel)) (List.mem_of_getElem? (i := 1751) (by decide +kernel)) (List.mem_of_getElem? (i := 155) (by decide +kernel)) eh_18 rfl (e_newrel ek_18) (by decide +kernel) rfl : e_Sn 206 5 (o_new 18 3 ef_18 8))
noncomputable def n_206_4 : e_Y := u_ld f_okA f_l0 n_206_5
theorem t_206_4 : e_Sn 206 4 (e_un n_206_4) := u_ldAT f_l0_eq (s_aload (i := .aload_n 0) (len := 1) hq_206 (by decide +kernel) rfl (.inr ⟨0, rfl, rfl, rfl⟩) : e_Sn 206 4 (o_load e_okR 0 5)) t_206_5
noncomputable def n_206_1 : e_Y := u_tab (o_oinit 4)
theorem t_206_1 : e_Sn 206 1 (e_un n_206_1) := u_tabT (s_oinit (idx := 1) hq_206 ho_206 (List.mem_of_getElem? (i := 2077) (by decide +kernel)) (List.mem_of_getElem? (i := 190) (by decide +kernel)) (List.mem_of_getElem? (i := 191) (by decide +kernel)) (by decide +kernel) rfl : e_Sn 206 1 (o_oinit 4))
noncomputable def n_206_0 : e_Y := u_ld f_okA f_l0 n_206_1
theorem t_206_0 : e_Sn 206 0 (e_un n_206_0) := u_ldAT f_l0_eq (s_aload (i := .aload_n 0) (len := 1) hq_206 (by decide +kernel) rfl (.inr ⟨0, rfl, rfl, rfl⟩) : e_Sn 206 0 (o_load e_okR 0 1)) t_206_1
noncomputable def e_tb_206 : e_X := (e_br 8 (e_br 4 (e_lf 0 (e_un n_206_0)) (e_lf 4 (e_un n_206_4))) (e_br 12 (e_lf 8 (e_un n_206_8)) (e_lf 12 (e_un n_206_12))))
theorem e_tk_206 : e_Tb 206 e_tb_206 := (e_brT (e_brT (e_lfT t_206_0) (e_lfT t_206_4)) (e_brT (e_lfT t_206_8) (e_lfT t_206_12)))
theorem hq_176 : (e_ml[176]?).map (·.2.1) = some prog_14_method_46_code := rfl
theorem ho_176 : (e_ml[176]?).map (·.1.cls) = some "PlateroomprinterModel" := rfl
theorem hr_176 : (e_ml[176]?).map (·.2.2.2) = some (some .int) := rfl
noncomputable def n_176_17 : e_Y := u_retI
theorem t_176_17 : e_Sn 176 17 (e_un n_176_17) := u_retIT (s_iret hq_176 hr_176 (by decide +kernel) : e_Sn 176 17 (o_ret e_okI))
noncomputable def n_176_16 : e_Y := u_old (o_l2i 17) n_176_17
theorem t_176_16 : e_Sn 176 16 (e_un n_176_16) := u_oldT (s_l2i hq_176 (by decide +kernel) rfl : e_Sn 176 16 (o_l2i 17)) t_176_17 e_cg_l2i
noncomputable def n_176_15 : e_Y := u_ald 2 (u_old (o_aldO 2 16) n_176_16) n_176_16
theorem t_176_15 : e_Sn 176 15 (e_un n_176_15) := u_aldOT (s_lald hq_176 (by decide +kernel) rfl : e_Sn 176 15 (o_aldO 2 16)) t_176_16
noncomputable def n_176_14 : e_Y := u_bin a_iadd (u_old (o_iadd 15) n_176_15) n_176_15
theorem t_176_14 : e_Sn 176 14 (e_un n_176_14) := u_iaddT (s_iadd hq_176 (by decide +kernel) rfl : e_Sn 176 14 (o_iadd 15)) t_176_15
noncomputable def n_176_13 : e_Y := u_ld f_okI f_l2 n_176_14
theorem t_176_13 : e_Sn 176 13 (e_un n_176_13) := u_ldIT f_l2_eq (s_iload (i := .iload_n 2) (len := 1) hq_176 (by decide +kernel) rfl (.inr ⟨2, rfl, rfl, rfl⟩) : e_Sn 176 13 (o_load e_okI 2 14)) t_176_14
noncomputable def n_176_12 : e_Y := u_bin a_imul (u_old (o_imul 13) n_176_13) n_176_13
theorem t_176_12 : e_Sn 176 12 (e_un n_176_12) := u_imulT (s_imul hq_176 (by decide +kernel) rfl : e_Sn 176 12 (o_imul 13)) t_176_13
noncomputable def n_176_11 : e_Y := u_ld f_okI f_l1 n_176_12
theorem t_176_11 : e_Sn 176 11 (e_un n_176_11) := u_ldIT f_l1_eq (s_iload (i := .iload_n 1) (len := 1) hq_176 (by decide +kernel) rfl (.inr ⟨1, rfl, rfl, rfl⟩) : e_Sn 176 11 (o_load e_okI 1 12)) t_176_12
noncomputable def n_176_10 : e_Y := u_push (.inl 2147483650) n_176_11
theorem t_176_10 : e_Sn 176 10 (e_un n_176_10) := u_pushT (s_iconst (n := (2)) hq_176 (by decide +kernel) rfl ⟨by decide +kernel, by decide +kernel⟩ : e_Sn 176 10 (o_push (.inl 2147483650) 11)) t_176_11
noncomputable def n_176_7 : e_Y := u_getf 17 0 (u_old (o_getf (e_f1 17 0) 10) n_176_10) n_176_10
theorem t_176_7 : e_Sn 176 7 (e_un n_176_7) := u_getfT (s_getf (C := er_17) (T := et_17) (N := 6) (ref := "PlateroomprinterModel$State") (index := 252) (ci := 17) (k := 0) hq_176 ho_176 ⟨rfl, by decide, ei_17, (List.mem_of_getElem? (i := 1790) (by decide +kernel)), .inl rfl⟩ (by decide +kernel) rfl : e_Sn 176 7 (o_getf (e_f1 17 0) 10)) t_176_10
noncomputable def n_176_4 : e_Y := u_getf 13 2 (u_old (o_getf (e_f1 13 2) 7) n_176_7) n_176_7
theorem t_176_4 : e_Sn 176 4 (e_un n_176_4) := u_getfT (s_getf (C := er_13) (T := et_13) (N := 13) (ref := "PlateroomprinterModel$Machine") (index := 218) (ci := 13) (k := 2) hq_176 ho_176 ⟨rfl, by decide, ei_13, (List.mem_of_getElem? (i := 1898) (by decide +kernel)), .inl rfl⟩ (by decide +kernel) rfl : e_Sn 176 4 (o_getf (e_f1 13 2) 7)) t_176_7
noncomputable def n_176_1 : e_Y := u_getf 12 1 (u_old (o_getf (e_f1 12 1) 4) n_176_4) n_176_4
theorem t_176_1 : e_Sn 176 1 (e_un n_176_1) := u_getfT (s_getf (C := er_12) (T := et_12) (N := 5) (ref := "PlateroomprinterModel") (index := 10) (ci := 12) (k := 1) hq_176 ho_176 ⟨rfl, by decide, ei_12, (List.mem_of_getElem? (i := 1959) (by decide +kernel)), .inl rfl⟩ (by decide +kernel) rfl : e_Sn 176 1 (o_getf (e_f1 12 1) 4)) t_176_4
noncomputable def n_176_0 : e_Y := u_ld f_okA f_l0 n_176_1
theorem t_176_0 : e_Sn 176 0 (e_un n_176_0) := u_ldAT f_l0_eq (s_aload (i := .aload_n 0) (len := 1) hq_176 (by decide +kernel) rfl (.inr ⟨0, rfl, rfl, rfl⟩) : e_Sn 176 0 (o_load e_okR 0 1)) t_176_1
noncomputable def e_tb_176 : e_X := (e_lf 0 (e_un n_176_0))
theorem e_tk_176 : e_Tb 176 e_tb_176 := (e_lfT t_176_0)
theorem hq_186 : (e_ml[186]?).map (·.2.1) = some prog_14_method_14_code := rfl
theorem ho_186 : (e_ml[186]?).map (·.1.cls) = some "PlateroomprinterModel" := rfl
theorem hr_186 : (e_ml[186]?).map (·.2.2.2) = some (some .int) := rfl
noncomputable def n_186_36 : e_Y := u_retI
theorem t_186_36 : e_Sn 186 36 (e_un n_186_36) := u_retIT (s_iret hq_186 hr_186 (by decide +kernel) : e_Sn 186 36 (o_ret e_okI))
noncomputable def n_186_35 : e_Y := u_ld f_okI f_l1 n_186_36
theorem t_186_35 : e_Sn 186 35 (e_un n_186_35) := u_ldIT f_l1_eq (s_iload (i := .iload_n 1) (len := 1) hq_186 (by decide +kernel) rfl (.inr ⟨1, rfl, rfl, rfl⟩) : e_Sn 186 35 (o_load e_okI 1 36)) t_186_36
noncomputable def n_186_9 : e_Y := u_jmp y_ge (u_old2 (o_clt 12 35) 12 (u_at 12) n_186_35) (u_at 12) n_186_35
theorem t_186_9 : e_Sn 186 9 (e_un n_186_9) := u_cltT rfl (s_cge (off := (26)) hq_186 (by decide +kernel) rfl rfl : e_Sn 186 9 (o_clt 12 35)) u_atT t_186_35
noncomputable def n_186_6 : e_Y := u_callV 18 234 1 20 1 n_234_0 n_186_9
theorem t_186_6 : e_Sn 186 6 (e_un n_186_6) := u_callVT rfl (s_callV (ci := 18) (C := er_18) (T := et_18) (N := 3) (index := 74) hq_186 ho_186 hy_234 hp_234 hc_234 hi_234 hd_234 (List.mem_of_getElem? (i := 2000) (by decide +kernel)) hs_234 (List.mem_of_getElem? (i := 2002) (by decide +kernel)) rfl (by decide +kernel) rfl : e_Sn 186 6 (o_callV (e_s1 18 234 1) 1 9)) t_234_0 t_186_9
noncomputable def n_186_5 : e_Y := u_ld f_okA f_l0 n_186_6
theorem t_186_5 : e_Sn 186 5 (e_un n_186_5) := u_ldAT f_l0_eq (s_aload (i := .aload_n 0) (len := 1) hq_186 (by decide +kernel) rfl (.inr ⟨0, rfl, rfl, rfl⟩) : e_Sn 186 5 (o_load e_okR 0 6)) t_186_6
noncomputable def n_186_4 : e_Y := u_ld f_okI f_l2 n_186_5
theorem t_186_4 : e_Sn 186 4 (e_un n_186_4) := u_ldIT f_l2_eq (s_iload (i := .iload_n 2) (len := 1) hq_186 (by decide +kernel) rfl (.inr ⟨2, rfl, rfl, rfl⟩) : e_Sn 186 4 (o_load e_okI 2 5)) t_186_5
noncomputable def n_186_3 : e_Y := u_st f_okI f_s2 n_186_4
theorem t_186_3 : e_Sn 186 3 (e_un n_186_3) := u_stIT (fun _ _ _ => f_s2_eq) (s_istore (i := .istore_n 2) (len := 1) hq_186 (by decide +kernel) rfl (.inr ⟨2, rfl, rfl, rfl⟩) : e_Sn 186 3 (o_store e_okI 2 4)) t_186_4
noncomputable def n_186_2 : e_Y := u_push (.inl 2147483648) n_186_3
theorem t_186_2 : e_Sn 186 2 (e_un n_186_2) := u_pushT (s_iconst (n := (0)) hq_186 (by decide +kernel) rfl ⟨by decide +kernel, by decide +kernel⟩ : e_Sn 186 2 (o_push (.inl 2147483648) 3)) t_186_3
noncomputable def n_186_1 : e_Y := u_st f_okI f_s1 n_186_2
theorem t_186_1 : e_Sn 186 1 (e_un n_186_1) := u_stIT (fun _ _ _ => f_s1_eq) (s_istore (i := .istore_n 1) (len := 1) hq_186 (by decide +kernel) rfl (.inr ⟨1, rfl, rfl, rfl⟩) : e_Sn 186 1 (o_store e_okI 1 2)) t_186_2
noncomputable def n_186_0 : e_Y := u_push (.inl 2147483648) n_186_1
theorem t_186_0 : e_Sn 186 0 (e_un n_186_0) := u_pushT (s_iconst (n := (0)) hq_186 (by decide +kernel) rfl ⟨by decide +kernel, by decide +kernel⟩ : e_Sn 186 0 (o_push (.inl 2147483648) 1)) t_186_1
noncomputable def e_tb_186 : e_X := (e_lf 0 (e_un n_186_0))
theorem e_tk_186 : e_Tb 186 e_tb_186 := (e_lfT t_186_0)
theorem hq_197 : (e_ml[197]?).map (·.2.1) = some prog_14_method_44_code := rfl
theorem ho_197 : (e_ml[197]?).map (·.1.cls) = some "PlateroomprinterModel" := rfl
theorem hr_197 : (e_ml[197]?).map (·.2.2.2) = some (some .int) := rfl
noncomputable def n_197_147 : e_Y := u_retI
theorem t_197_147 : e_Sn 197 147 (e_un n_197_147) := u_retIT (s_iret hq_197 hr_197 (by decide +kernel) : e_Sn 197 147 (o_ret e_okI))
noncomputable def n_197_144 : e_Y := u_callV 18 234 1 20 1 n_234_0 n_197_147
theorem t_197_144 : e_Sn 197 144 (e_un n_197_144) := u_callVT rfl (s_callV (ci := 18) (C := er_18) (T := et_18) (N := 3) (index := 74) hq_197 ho_197 hy_234 hp_234 hc_234 hi_234 hd_234 (List.mem_of_getElem? (i := 2000) (by decide +kernel)) hs_234 (List.mem_of_getElem? (i := 2002) (by decide +kernel)) rfl (by decide +kernel) rfl : e_Sn 197 144 (o_callV (e_s1 18 234 1) 1 147)) t_234_0 t_197_147
noncomputable def n_197_141 : e_Y := u_getf 13 3 (u_old (o_getf (e_f1 13 3) 144) n_197_144) n_197_144
theorem t_197_141 : e_Sn 197 141 (e_un n_197_141) := u_getfT (s_getf (C := er_13) (T := et_13) (N := 13) (ref := "PlateroomprinterModel$Machine") (index := 244) (ci := 13) (k := 3) hq_197 ho_197 ⟨rfl, by decide, ei_13, (List.mem_of_getElem? (i := 1901) (by decide +kernel)), .inl rfl⟩ (by decide +kernel) rfl : e_Sn 197 141 (o_getf (e_f1 13 3) 144)) t_197_144
noncomputable def n_197_138 : e_Y := u_getf 12 1 (u_old (o_getf (e_f1 12 1) 141) n_197_141) n_197_141
theorem t_197_138 : e_Sn 197 138 (e_un n_197_138) := u_getfT (s_getf (C := er_12) (T := et_12) (N := 5) (ref := "PlateroomprinterModel") (index := 10) (ci := 12) (k := 1) hq_197 ho_197 ⟨rfl, by decide, ei_12, (List.mem_of_getElem? (i := 1959) (by decide +kernel)), .inl rfl⟩ (by decide +kernel) rfl : e_Sn 197 138 (o_getf (e_f1 12 1) 141)) t_197_141
noncomputable def n_197_137 : e_Y := u_ld f_okA f_l0 n_197_138
theorem t_197_137 : e_Sn 197 137 (e_un n_197_137) := u_ldAT f_l0_eq (s_aload (i := .aload_n 0) (len := 1) hq_197 (by decide +kernel) rfl (.inr ⟨0, rfl, rfl, rfl⟩) : e_Sn 197 137 (o_load e_okR 0 138)) t_197_138
noncomputable def n_197_136 : e_Y := u_retI
theorem t_197_136 : e_Sn 197 136 (e_un n_197_136) := u_retIT (s_iret hq_197 hr_197 (by decide +kernel) : e_Sn 197 136 (o_ret e_okI))
noncomputable def n_197_133 : e_Y := u_callS 174 6 25 1 n_174_0 n_197_136
theorem t_197_133 : e_Sn 197 133 (e_un n_197_133) := u_callST rfl (s_callS (index := 240) hq_197 ho_197 hy_174 hp_174 hc_174 hi_174 hd_174 (List.mem_of_getElem? (i := 2959) (by decide +kernel)) hs_174 (by decide +kernel) rfl : e_Sn 197 133 (o_callS 174 6 1 136)) t_174_0 t_197_136
noncomputable def n_197_130 : e_Y := u_getf 17 3 (u_old (o_getf (e_f1 17 3) 133) n_197_133) n_197_133
theorem t_197_130 : e_Sn 197 130 (e_un n_197_130) := u_getfT (s_getf (C := er_17) (T := et_17) (N := 6) (ref := "PlateroomprinterModel$State") (index := 237) (ci := 17) (k := 3) hq_197 ho_197 ⟨rfl, by decide, ei_17, (List.mem_of_getElem? (i := 1799) (by decide +kernel)), .inl rfl⟩ (by decide +kernel) rfl : e_Sn 197 130 (o_getf (e_f1 17 3) 133)) t_197_133
noncomputable def n_197_129 : e_Y := u_ld f_okA f_l2 n_197_130
theorem t_197_129 : e_Sn 197 129 (e_un n_197_129) := u_ldAT f_l2_eq (s_aload (i := .aload_n 2) (len := 1) hq_197 (by decide +kernel) rfl (.inr ⟨2, rfl, rfl, rfl⟩) : e_Sn 197 129 (o_load e_okR 2 130)) t_197_130
noncomputable def n_197_128 : e_Y := u_retI
theorem t_197_128 : e_Sn 197 128 (e_un n_197_128) := u_retIT (s_iret hq_197 hr_197 (by decide +kernel) : e_Sn 197 128 (o_ret e_okI))
noncomputable def n_197_125 : e_Y := u_callS 186 3 22 1 n_186_0 n_197_128
theorem t_197_125 : e_Sn 197 125 (e_un n_197_125) := u_callST rfl (s_callS (index := 234) hq_197 ho_197 hy_186 hp_186 hc_186 hi_186 hd_186 (List.mem_of_getElem? (i := 2958) (by decide +kernel)) hs_186 (by decide +kernel) rfl : e_Sn 197 125 (o_callS 186 3 1 128)) t_186_0 t_197_128
noncomputable def n_197_122 : e_Y := u_getf 17 1 (u_old (o_getf (e_f1 17 1) 125) n_197_125) n_197_125
theorem t_197_122 : e_Sn 197 122 (e_un n_197_122) := u_getfT (s_getf (C := er_17) (T := et_17) (N := 6) (ref := "PlateroomprinterModel$State") (index := 231) (ci := 17) (k := 1) hq_197 ho_197 ⟨rfl, by decide, ei_17, (List.mem_of_getElem? (i := 1793) (by decide +kernel)), .inl rfl⟩ (by decide +kernel) rfl : e_Sn 197 122 (o_getf (e_f1 17 1) 125)) t_197_125
noncomputable def n_197_121 : e_Y := u_ld f_okA f_l2 n_197_122
theorem t_197_121 : e_Sn 197 121 (e_un n_197_121) := u_ldAT f_l2_eq (s_aload (i := .aload_n 2) (len := 1) hq_197 (by decide +kernel) rfl (.inr ⟨2, rfl, rfl, rfl⟩) : e_Sn 197 121 (o_load e_okR 2 122)) t_197_122
noncomputable def n_197_120 : e_Y := u_retI
theorem t_197_120 : e_Sn 197 120 (e_un n_197_120) := u_retIT (s_iret hq_197 hr_197 (by decide +kernel) : e_Sn 197 120 (o_ret e_okI))
noncomputable def n_197_117 : e_Y := u_callV 18 234 1 20 1 n_234_0 n_197_120
theorem t_197_117 : e_Sn 197 117 (e_un n_197_117) := u_callVT rfl (s_callV (ci := 18) (C := er_18) (T := et_18) (N := 3) (index := 74) hq_197 ho_197 hy_234 hp_234 hc_234 hi_234 hd_234 (List.mem_of_getElem? (i := 2000) (by decide +kernel)) hs_234 (List.mem_of_getElem? (i := 2002) (by decide +kernel)) rfl (by decide +kernel) rfl : e_Sn 197 117 (o_callV (e_s1 18 234 1) 1 120)) t_234_0 t_197_120
noncomputable def n_197_114 : e_Y := u_getf 17 1 (u_old (o_getf (e_f1 17 1) 117) n_197_117) n_197_117
theorem t_197_114 : e_Sn 197 114 (e_un n_197_114) := u_getfT (s_getf (C := er_17) (T := et_17) (N := 6) (ref := "PlateroomprinterModel$State") (index := 231) (ci := 17) (k := 1) hq_197 ho_197 ⟨rfl, by decide, ei_17, (List.mem_of_getElem? (i := 1793) (by decide +kernel)), .inl rfl⟩ (by decide +kernel) rfl : e_Sn 197 114 (o_getf (e_f1 17 1) 117)) t_197_117
noncomputable def n_197_113 : e_Y := u_ld f_okA f_l2 n_197_114
theorem t_197_113 : e_Sn 197 113 (e_un n_197_113) := u_ldAT f_l2_eq (s_aload (i := .aload_n 2) (len := 1) hq_197 (by decide +kernel) rfl (.inr ⟨2, rfl, rfl, rfl⟩) : e_Sn 197 113 (o_load e_okR 2 114)) t_197_114
noncomputable def n_197_112 : e_Y := u_retI
theorem t_197_112 : e_Sn 197 112 (e_un n_197_112) := u_retIT (s_iret hq_197 hr_197 (by decide +kernel) : e_Sn 197 112 (o_ret e_okI))
noncomputable def n_197_100 : e_Y := n_197_112
theorem t_197_100 : e_Sn 197 100 (e_un n_197_100) := u_gotoT (s_goto (off := (12)) hq_197 (by decide +kernel) rfl : e_Sn 197 100 (o_goto 112)) t_197_112
noncomputable def n_197_99 : e_Y := u_push (.inl 2147483648) n_197_100
theorem t_197_99 : e_Sn 197 99 (e_un n_197_99) := u_pushT (s_iconst (n := (0)) hq_197 (by decide +kernel) rfl ⟨by decide +kernel, by decide +kernel⟩ : e_Sn 197 99 (o_push (.inl 2147483648) 100)) t_197_100
noncomputable def n_197_96 : e_Y := u_tab (o_null 99 103)
theorem t_197_96 : e_Sn 197 96 (e_un n_197_96) := u_tabT (s_ifnonnull (off := (7)) hq_197 (by decide +kernel) rfl rfl : e_Sn 197 96 (o_null 99 103))
noncomputable def n_197_93 : e_Y := u_getf 17 2 (u_old (o_getf (e_f1 17 2) 96) n_197_96) n_197_96
theorem t_197_93 : e_Sn 197 93 (e_un n_197_93) := u_getfT (s_getf (C := er_17) (T := et_17) (N := 6) (ref := "PlateroomprinterModel$State") (index := 228) (ci := 17) (k := 2) hq_197 ho_197 ⟨rfl, by decide, ei_17, (List.mem_of_getElem? (i := 1796) (by decide +kernel)), .inl rfl⟩ (by decide +kernel) rfl : e_Sn 197 93 (o_getf (e_f1 17 2) 96)) t_197_96
noncomputable def n_197_92 : e_Y := u_ld f_okA f_l2 n_197_93
theorem t_197_92 : e_Sn 197 92 (e_un n_197_92) := u_ldAT f_l2_eq (s_aload (i := .aload_n 2) (len := 1) hq_197 (by decide +kernel) rfl (.inr ⟨2, rfl, rfl, rfl⟩) : e_Sn 197 92 (o_load e_okR 2 93)) t_197_93
noncomputable def n_197_91 : e_Y := u_retI
theorem t_197_91 : e_Sn 197 91 (e_un n_197_91) := u_retIT (s_iret hq_197 hr_197 (by decide +kernel) : e_Sn 197 91 (o_ret e_okI))
noncomputable def n_197_88 : e_Y := u_callS 180 1 20 1 n_180_0 n_197_91
theorem t_197_88 : e_Sn 197 88 (e_un n_197_88) := u_callST rfl (s_callS (index := 107) hq_197 ho_197 hy_180 hp_180 hc_180 hi_180 hd_180 (List.mem_of_getElem? (i := 2482) (by decide +kernel)) hs_180 (by decide +kernel) rfl : e_Sn 197 88 (o_callS 180 1 1 91)) t_180_0 t_197_91
noncomputable def n_197_87 : e_Y := u_push (.inl 2147483648) n_197_88
theorem t_197_87 : e_Sn 197 87 (e_un n_197_87) := u_pushT (s_iconst (n := (0)) hq_197 (by decide +kernel) rfl ⟨by decide +kernel, by decide +kernel⟩ : e_Sn 197 87 (o_push (.inl 2147483648) 88)) t_197_88
noncomputable def n_197_80 : e_Y := u_tab (o_null 87 83)
theorem t_197_80 : e_Sn 197 80 (e_un n_197_80) := u_tabT (s_ifnull (off := (7)) hq_197 (by decide +kernel) rfl rfl : e_Sn 197 80 (o_null 87 83))
noncomputable def n_197_77 : e_Y := u_getf 17 2 (u_old (o_getf (e_f1 17 2) 80) n_197_80) n_197_80
theorem t_197_77 : e_Sn 197 77 (e_un n_197_77) := u_getfT (s_getf (C := er_17) (T := et_17) (N := 6) (ref := "PlateroomprinterModel$State") (index := 228) (ci := 17) (k := 2) hq_197 ho_197 ⟨rfl, by decide, ei_17, (List.mem_of_getElem? (i := 1796) (by decide +kernel)), .inl rfl⟩ (by decide +kernel) rfl : e_Sn 197 77 (o_getf (e_f1 17 2) 80)) t_197_80
noncomputable def n_197_76 : e_Y := u_ld f_okA f_l2 n_197_77
theorem t_197_76 : e_Sn 197 76 (e_un n_197_76) := u_ldAT f_l2_eq (s_aload (i := .aload_n 2) (len := 1) hq_197 (by decide +kernel) rfl (.inr ⟨2, rfl, rfl, rfl⟩) : e_Sn 197 76 (o_load e_okR 2 77)) t_197_77
noncomputable def n_197_36 : e_Y := u_tab (o_switch 2147483656 [76, 92, 92, 113, 121, 129] 137)
theorem t_197_36 : e_Sn 197 36 (e_un n_197_36) := u_tabT (s_switch (dflt := (101)) (low := (8)) (hi := (13)) (offs := #[(40), (56), (56), (77), (85), (93)]) (len := 40) hq_197 (by decide +kernel) rfl rfl rfl rfl : e_Sn 197 36 (o_switch 2147483656 [76, 92, 92, 113, 121, 129] 137))
noncomputable def n_197_35 : e_Y := u_ld f_okI f_l1 n_197_36
theorem t_197_35 : e_Sn 197 35 (e_un n_197_35) := u_ldIT f_l1_eq (s_iload (i := .iload_n 1) (len := 1) hq_197 (by decide +kernel) rfl (.inr ⟨1, rfl, rfl, rfl⟩) : e_Sn 197 35 (o_load e_okI 1 36)) t_197_36
noncomputable def n_197_34 : e_Y := u_retI
theorem t_197_34 : e_Sn 197 34 (e_un n_197_34) := u_retIT (s_iret hq_197 hr_197 (by decide +kernel) : e_Sn 197 34 (o_ret e_okI))
noncomputable def n_197_33 : e_Y := u_ald 0 (u_old (o_ald e_fcs 34) n_197_34) n_197_34
theorem t_197_33 : e_Sn 197 33 (e_un n_197_33) := u_aldT (s_iald hq_197 (by decide +kernel) rfl : e_Sn 197 33 (o_ald e_fcs 34)) t_197_34
noncomputable def n_197_32 : e_Y := u_bin a_isub (u_old (o_isub 33) n_197_33) n_197_33
theorem t_197_32 : e_Sn 197 32 (e_un n_197_32) := u_isubT (s_isub hq_197 (by decide +kernel) rfl : e_Sn 197 32 (o_isub 33)) t_197_33
noncomputable def n_197_31 : e_Y := u_push (.inl 2147483652) n_197_32
theorem t_197_31 : e_Sn 197 31 (e_un n_197_31) := u_pushT (s_iconst (n := (4)) hq_197 (by decide +kernel) rfl ⟨by decide +kernel, by decide +kernel⟩ : e_Sn 197 31 (o_push (.inl 2147483652) 32)) t_197_32
noncomputable def n_197_30 : e_Y := u_ld f_okI f_l1 n_197_31
theorem t_197_30 : e_Sn 197 30 (e_un n_197_30) := u_ldIT f_l1_eq (s_iload (i := .iload_n 1) (len := 1) hq_197 (by decide +kernel) rfl (.inr ⟨1, rfl, rfl, rfl⟩) : e_Sn 197 30 (o_load e_okI 1 31)) t_197_31
noncomputable def n_197_27 : e_Y := u_getf 17 4 (u_old (o_getf (e_f1 17 4) 30) n_197_30) n_197_30
theorem t_197_27 : e_Sn 197 27 (e_un n_197_27) := u_getfT (s_getf (C := er_17) (T := et_17) (N := 6) (ref := "PlateroomprinterModel$State") (index := 227) (ci := 17) (k := 4) hq_197 ho_197 ⟨rfl, by decide, ei_17, (List.mem_of_getElem? (i := 1802) (by decide +kernel)), .inl rfl⟩ (by decide +kernel) rfl : e_Sn 197 27 (o_getf (e_f1 17 4) 30)) t_197_30
noncomputable def n_197_26 : e_Y := u_ld f_okA f_l2 n_197_27
theorem t_197_26 : e_Sn 197 26 (e_un n_197_26) := u_ldAT f_l2_eq (s_aload (i := .aload_n 2) (len := 1) hq_197 (by decide +kernel) rfl (.inr ⟨2, rfl, rfl, rfl⟩) : e_Sn 197 26 (o_load e_okR 2 27)) t_197_27
noncomputable def n_197_23 : e_Y := u_jmp y_ge (u_old2 (o_clt 26 35) 26 n_197_26 n_197_35) n_197_26 n_197_35
theorem t_197_23 : e_Sn 197 23 (e_un n_197_23) := u_cltT rfl (s_cge (off := (12)) hq_197 (by decide +kernel) rfl rfl : e_Sn 197 23 (o_clt 26 35)) t_197_26 t_197_35
noncomputable def n_197_21 : e_Y := u_push (.inl 2147483656) n_197_23
theorem t_197_21 : e_Sn 197 21 (e_un n_197_21) := u_pushT (s_bipush (n := (8)) hq_197 (by decide +kernel) rfl ⟨by decide +kernel, by decide +kernel⟩ : e_Sn 197 21 (o_push (.inl 2147483656) 23)) t_197_23
noncomputable def n_197_20 : e_Y := u_ld f_okI f_l1 n_197_21
theorem t_197_20 : e_Sn 197 20 (e_un n_197_20) := u_ldIT f_l1_eq (s_iload (i := .iload_n 1) (len := 1) hq_197 (by decide +kernel) rfl (.inr ⟨1, rfl, rfl, rfl⟩) : e_Sn 197 20 (o_load e_okI 1 21)) t_197_21
noncomputable def n_197_19 : e_Y := u_retI
theorem t_197_19 : e_Sn 197 19 (e_un n_197_19) := u_retIT (s_iret hq_197 hr_197 (by decide +kernel) : e_Sn 197 19 (o_ret e_okI))
noncomputable def n_197_18 : e_Y := u_ald 0 (u_old (o_ald e_fcs 19) n_197_19) n_197_19
theorem t_197_18 : e_Sn 197 18 (e_un n_197_18) := u_aldT (s_iald hq_197 (by decide +kernel) rfl : e_Sn 197 18 (o_ald e_fcs 19)) t_197_19
noncomputable def n_197_17 : e_Y := u_ld f_okI f_l1 n_197_18
theorem t_197_17 : e_Sn 197 17 (e_un n_197_17) := u_ldIT f_l1_eq (s_iload (i := .iload_n 1) (len := 1) hq_197 (by decide +kernel) rfl (.inr ⟨1, rfl, rfl, rfl⟩) : e_Sn 197 17 (o_load e_okI 1 18)) t_197_18
noncomputable def n_197_14 : e_Y := u_getf 17 5 (u_old (o_getf (e_f1 17 5) 17) n_197_17) n_197_17
theorem t_197_14 : e_Sn 197 14 (e_un n_197_14) := u_getfT (s_getf (C := er_17) (T := et_17) (N := 6) (ref := "PlateroomprinterModel$State") (index := 222) (ci := 17) (k := 5) hq_197 ho_197 ⟨rfl, by decide, ei_17, (List.mem_of_getElem? (i := 1805) (by decide +kernel)), .inl rfl⟩ (by decide +kernel) rfl : e_Sn 197 14 (o_getf (e_f1 17 5) 17)) t_197_17
noncomputable def n_197_13 : e_Y := u_ld f_okA f_l2 n_197_14
theorem t_197_13 : e_Sn 197 13 (e_un n_197_13) := u_ldAT f_l2_eq (s_aload (i := .aload_n 2) (len := 1) hq_197 (by decide +kernel) rfl (.inr ⟨2, rfl, rfl, rfl⟩) : e_Sn 197 13 (o_load e_okR 2 14)) t_197_14
noncomputable def n_197_10 : e_Y := u_jmp y_ge (u_old2 (o_clt 13 20) 13 n_197_13 n_197_20) n_197_13 n_197_20
theorem t_197_10 : e_Sn 197 10 (e_un n_197_10) := u_cltT rfl (s_cge (off := (10)) hq_197 (by decide +kernel) rfl rfl : e_Sn 197 10 (o_clt 13 20)) t_197_13 t_197_20
noncomputable def n_197_9 : e_Y := u_push (.inl 2147483652) n_197_10
theorem t_197_9 : e_Sn 197 9 (e_un n_197_9) := u_pushT (s_iconst (n := (4)) hq_197 (by decide +kernel) rfl ⟨by decide +kernel, by decide +kernel⟩ : e_Sn 197 9 (o_push (.inl 2147483652) 10)) t_197_10
noncomputable def n_197_8 : e_Y := u_ld f_okI f_l1 n_197_9
theorem t_197_8 : e_Sn 197 8 (e_un n_197_8) := u_ldIT f_l1_eq (s_iload (i := .iload_n 1) (len := 1) hq_197 (by decide +kernel) rfl (.inr ⟨1, rfl, rfl, rfl⟩) : e_Sn 197 8 (o_load e_okI 1 9)) t_197_9
noncomputable def n_197_7 : e_Y := u_st f_okA f_s2 n_197_8
theorem t_197_7 : e_Sn 197 7 (e_un n_197_7) := u_stAT (fun _ _ _ => f_s2_eq) (s_astore (i := .astore_n 2) (len := 1) hq_197 (by decide +kernel) rfl (.inr ⟨2, rfl, rfl, rfl⟩) : e_Sn 197 7 (o_store e_okR 2 8)) t_197_8
noncomputable def n_197_4 : e_Y := u_getf 13 2 (u_old (o_getf (e_f1 13 2) 7) n_197_7) n_197_7
theorem t_197_4 : e_Sn 197 4 (e_un n_197_4) := u_getfT (s_getf (C := er_13) (T := et_13) (N := 13) (ref := "PlateroomprinterModel$Machine") (index := 218) (ci := 13) (k := 2) hq_197 ho_197 ⟨rfl, by decide, ei_13, (List.mem_of_getElem? (i := 1898) (by decide +kernel)), .inl rfl⟩ (by decide +kernel) rfl : e_Sn 197 4 (o_getf (e_f1 13 2) 7)) t_197_7
noncomputable def n_197_1 : e_Y := u_getf 12 1 (u_old (o_getf (e_f1 12 1) 4) n_197_4) n_197_4
theorem t_197_1 : e_Sn 197 1 (e_un n_197_1) := u_getfT (s_getf (C := er_12) (T := et_12) (N := 5) (ref := "PlateroomprinterModel") (index := 10) (ci := 12) (k := 1) hq_197 ho_197 ⟨rfl, by decide, ei_12, (List.mem_of_getElem? (i := 1959) (by decide +kernel)), .inl rfl⟩ (by decide +kernel) rfl : e_Sn 197 1 (o_getf (e_f1 12 1) 4)) t_197_4
noncomputable def n_197_0 : e_Y := u_ld f_okA f_l0 n_197_1
theorem t_197_0 : e_Sn 197 0 (e_un n_197_0) := u_ldAT f_l0_eq (s_aload (i := .aload_n 0) (len := 1) hq_197 (by decide +kernel) rfl (.inr ⟨0, rfl, rfl, rfl⟩) : e_Sn 197 0 (o_load e_okR 0 1)) t_197_1
noncomputable def e_tb_197 : e_X := (e_br 99 (e_br 87 (e_br 76 (e_lf 0 (e_un n_197_0)) (e_lf 76 (e_un n_197_76))) (e_br 92 (e_lf 87 (e_un n_197_87)) (e_lf 92 (e_un n_197_92)))) (e_br 121 (e_br 113 (e_lf 99 (e_un n_197_99)) (e_lf 113 (e_un n_197_113))) (e_br 129 (e_lf 121 (e_un n_197_121)) (e_br 137 (e_lf 129 (e_un n_197_129)) (e_lf 137 (e_un n_197_137))))))
theorem e_tk_197 : e_Tb 197 e_tb_197 := (e_brT (e_brT (e_brT (e_lfT t_197_0) (e_lfT t_197_76)) (e_brT (e_lfT t_197_87) (e_lfT t_197_92))) (e_brT (e_brT (e_lfT t_197_99) (e_lfT t_197_113)) (e_brT (e_lfT t_197_121) (e_brT (e_lfT t_197_129) (e_lfT t_197_137)))))
theorem hq_162 : (e_ml[162]?).map (·.2.1) = some prog_14_method_2_code := rfl
theorem ho_162 : (e_ml[162]?).map (·.1.cls) = some "PlateroomprinterModel" := rfl
theorem hr_162 : (e_ml[162]?).map (·.2.2.2) = some (some .boolean) := rfl
noncomputable def n_162_18 : e_Y := u_tab (o_ret e_okZ)
theorem t_162_18 : e_Sn 162 18 (e_un n_162_18) := u_tabT (s_zret hq_162 hr_162 (by decide +kernel) : e_Sn 162 18 (o_ret e_okZ))
noncomputable def n_162_17 : e_Y := u_push (.inl 2147483648) n_162_18
theorem t_162_17 : e_Sn 162 17 (e_un n_162_17) := u_pushT (s_iconst (n := (0)) hq_162 (by decide +kernel) rfl ⟨by decide +kernel, by decide +kernel⟩ : e_Sn 162 17 (o_push (.inl 2147483648) 18)) t_162_18
noncomputable def n_162_14 : e_Y := n_162_18
theorem t_162_14 : e_Sn 162 14 (e_un n_162_14) := u_gotoT (s_goto (off := (4)) hq_162 (by decide +kernel) rfl : e_Sn 162 14 (o_goto 18)) t_162_18
noncomputable def n_162_13 : e_Y := u_push (.inl 2147483649) n_162_14
theorem t_162_13 : e_Sn 162 13 (e_un n_162_13) := u_pushT (s_iconst (n := (1)) hq_162 (by decide +kernel) rfl ⟨by decide +kernel, by decide +kernel⟩ : e_Sn 162 13 (o_push (.inl 2147483649) 14)) t_162_14
noncomputable def n_162_10 : e_Y := u_if y_le0 (u_old2 (o_ifgt 17 13) 17 n_162_17 n_162_13) n_162_17 n_162_13
theorem t_162_10 : e_Sn 162 10 (e_un n_162_10) := u_ifgtT rfl (s_ifgt (off := (7)) hq_162 (by decide +kernel) rfl rfl : e_Sn 162 10 (o_ifgt 17 13)) t_162_17 t_162_13
noncomputable def n_162_9 : e_Y := u_old (o_lcmp 10) n_162_10
theorem t_162_9 : e_Sn 162 9 (e_un n_162_9) := u_oldT (s_lcmp hq_162 (by decide +kernel) rfl : e_Sn 162 9 (o_lcmp 10)) t_162_10 e_cg_lcmp
noncomputable def n_162_7 : e_Y := u_old (o_load e_okL 4 9) n_162_9
theorem t_162_7 : e_Sn 162 7 (e_un n_162_7) := u_oldT (s_lload (i := .lload 4) (len := 2) hq_162 (by decide +kernel) rfl (.inl ⟨rfl, rfl⟩) : e_Sn 162 7 (o_load e_okL 4 9)) t_162_9 e_congr_load
noncomputable def n_162_6 : e_Y := u_old (o_load e_okL 0 7) n_162_7
theorem t_162_6 : e_Sn 162 6 (e_un n_162_6) := u_oldT (s_lload (i := .lload_n 0) (len := 1) hq_162 (by decide +kernel) rfl (.inr ⟨0, rfl, rfl, rfl⟩) : e_Sn 162 6 (o_load e_okL 0 7)) t_162_7 e_congr_load
noncomputable def n_162_3 : e_Y := u_if y_ge0 (u_old2 (o_iflt 17 6) 17 n_162_17 n_162_6) n_162_17 n_162_6
theorem t_162_3 : e_Sn 162 3 (e_un n_162_3) := u_ifltT rfl (s_iflt (off := (14)) hq_162 (by decide +kernel) rfl rfl : e_Sn 162 3 (o_iflt 17 6)) t_162_17 t_162_6
noncomputable def n_162_2 : e_Y := u_old (o_lcmp 3) n_162_3
theorem t_162_2 : e_Sn 162 2 (e_un n_162_2) := u_oldT (s_lcmp hq_162 (by decide +kernel) rfl : e_Sn 162 2 (o_lcmp 3)) t_162_3 e_cg_lcmp
noncomputable def n_162_1 : e_Y := u_old (o_load e_okL 2 2) n_162_2
theorem t_162_1 : e_Sn 162 1 (e_un n_162_1) := u_oldT (s_lload (i := .lload_n 2) (len := 1) hq_162 (by decide +kernel) rfl (.inr ⟨2, rfl, rfl, rfl⟩) : e_Sn 162 1 (o_load e_okL 2 2)) t_162_2 e_congr_load
noncomputable def n_162_0 : e_Y := u_old (o_load e_okL 0 1) n_162_1
theorem t_162_0 : e_Sn 162 0 (e_un n_162_0) := u_oldT (s_lload (i := .lload_n 0) (len := 1) hq_162 (by decide +kernel) rfl (.inr ⟨0, rfl, rfl, rfl⟩) : e_Sn 162 0 (o_load e_okL 0 1)) t_162_1 e_congr_load
noncomputable def e_tb_162 : e_X := (e_lf 0 (e_un n_162_0))
theorem e_tk_162 : e_Tb 162 e_tb_162 := (e_lfT t_162_0)
theorem hq_187 : (e_ml[187]?).map (·.2.1) = some prog_14_method_23_code := rfl
theorem ho_187 : (e_ml[187]?).map (·.1.cls) = some "PlateroomprinterModel" := rfl
theorem hr_187 : (e_ml[187]?).map (·.2.2.2) = some (some .boolean) := rfl
noncomputable def n_187_28 : e_Y := u_tab (o_ret e_okZ)
theorem t_187_28 : e_Sn 187 28 (e_un n_187_28) := u_tabT (s_zret hq_187 hr_187 (by decide +kernel) : e_Sn 187 28 (o_ret e_okZ))
noncomputable def n_187_27 : e_Y := u_push (.inl 2147483648) n_187_28
theorem t_187_27 : e_Sn 187 27 (e_un n_187_27) := u_pushT (s_iconst (n := (0)) hq_187 (by decide +kernel) rfl ⟨by decide +kernel, by decide +kernel⟩ : e_Sn 187 27 (o_push (.inl 2147483648) 28)) t_187_28
noncomputable def n_187_24 : e_Y := n_187_28
theorem t_187_24 : e_Sn 187 24 (e_un n_187_24) := u_gotoT (s_goto (off := (4)) hq_187 (by decide +kernel) rfl : e_Sn 187 24 (o_goto 28)) t_187_28
noncomputable def n_187_23 : e_Y := u_push (.inl 2147483649) n_187_24
theorem t_187_23 : e_Sn 187 23 (e_un n_187_23) := u_pushT (s_iconst (n := (1)) hq_187 (by decide +kernel) rfl ⟨by decide +kernel, by decide +kernel⟩ : e_Sn 187 23 (o_push (.inl 2147483649) 24)) t_187_24
noncomputable def n_187_20 : e_Y := u_if y_le0 (u_old2 (o_ifgt 23 27) 23 n_187_23 n_187_27) n_187_23 n_187_27
theorem t_187_20 : e_Sn 187 20 (e_un n_187_20) := u_ifgtT rfl (s_ifle (off := (7)) hq_187 (by decide +kernel) rfl rfl : e_Sn 187 20 (o_ifgt 23 27)) t_187_23 t_187_27
noncomputable def n_187_17 : e_Y := u_getf 12 0 (u_old (o_getf (e_f1 12 0) 20) n_187_20) n_187_20
theorem t_187_17 : e_Sn 187 17 (e_un n_187_17) := u_getfT (s_getf (C := er_12) (T := et_12) (N := 5) (ref := "PlateroomprinterModel") (index := 124) (ci := 12) (k := 0) hq_187 ho_187 ⟨rfl, by decide, ei_12, (List.mem_of_getElem? (i := 1958) (by decide +kernel)), .inl rfl⟩ (by decide +kernel) rfl : e_Sn 187 17 (o_getf (e_f1 12 0) 20)) t_187_20
noncomputable def n_187_16 : e_Y := u_ld f_okA f_l0 n_187_17
theorem t_187_16 : e_Sn 187 16 (e_un n_187_16) := u_ldAT f_l0_eq (s_aload (i := .aload_n 0) (len := 1) hq_187 (by decide +kernel) rfl (.inr ⟨0, rfl, rfl, rfl⟩) : e_Sn 187 16 (o_load e_okR 0 17)) t_187_17
noncomputable def n_187_13 : e_Y := u_old (o_putf (e_f1 12 0) e_okI 16) n_187_16
theorem t_187_13 : e_Sn 187 13 (e_un n_187_13) := u_oldT (s_putf (ty0 := ey_12) (ok := e_okI) (C := er_12) (T := et_12) (N := 5) (ref := "PlateroomprinterModel") (index := 124) (ci := 12) (k := 0) hq_187 ho_187 ⟨rfl, by decide, ei_12, (List.mem_of_getElem? (i := 1958) (by decide +kernel)), .inl rfl⟩ eo_12 en_12 e_oksI (.inl rfl) (by decide +kernel) rfl : e_Sn 187 13 (o_putf (e_f1 12 0) e_okI 16)) t_187_16 (e_cg_putf (e_f1 12 0) e_okI)
noncomputable def n_187_12 : e_Y := u_ld f_okI f_l2 n_187_13
theorem t_187_12 : e_Sn 187 12 (e_un n_187_12) := u_ldIT f_l2_eq (s_iload (i := .iload_n 2) (len := 1) hq_187 (by decide +kernel) rfl (.inr ⟨2, rfl, rfl, rfl⟩) : e_Sn 187 12 (o_load e_okI 2 13)) t_187_13
noncomputable def n_187_11 : e_Y := u_ld f_okA f_l0 n_187_12
theorem t_187_11 : e_Sn 187 11 (e_un n_187_11) := u_ldAT f_l0_eq (s_aload (i := .aload_n 0) (len := 1) hq_187 (by decide +kernel) rfl (.inr ⟨0, rfl, rfl, rfl⟩) : e_Sn 187 11 (o_load e_okR 0 12)) t_187_12
noncomputable def n_187_8 : e_Y := u_if y_ne0 (u_old2 (o_ifeq 11 16) 11 n_187_11 n_187_16) n_187_11 n_187_16
theorem t_187_8 : e_Sn 187 8 (e_un n_187_8) := u_ifeqT rfl (s_ifne (off := (8)) hq_187 (by decide +kernel) rfl rfl : e_Sn 187 8 (o_ifeq 11 16)) t_187_11 t_187_16
noncomputable def n_187_5 : e_Y := u_getf 12 0 (u_old (o_getf (e_f1 12 0) 8) n_187_8) n_187_8
theorem t_187_5 : e_Sn 187 5 (e_un n_187_5) := u_getfT (s_getf (C := er_12) (T := et_12) (N := 5) (ref := "PlateroomprinterModel") (index := 124) (ci := 12) (k := 0) hq_187 ho_187 ⟨rfl, by decide, ei_12, (List.mem_of_getElem? (i := 1958) (by decide +kernel)), .inl rfl⟩ (by decide +kernel) rfl : e_Sn 187 5 (o_getf (e_f1 12 0) 8)) t_187_8
noncomputable def n_187_4 : e_Y := u_ld f_okA f_l0 n_187_5
theorem t_187_4 : e_Sn 187 4 (e_un n_187_4) := u_ldAT f_l0_eq (s_aload (i := .aload_n 0) (len := 1) hq_187 (by decide +kernel) rfl (.inr ⟨0, rfl, rfl, rfl⟩) : e_Sn 187 4 (o_load e_okR 0 5)) t_187_5
noncomputable def n_187_1 : e_Y := u_if y_ne0 (u_old2 (o_ifeq 16 4) 16 n_187_16 n_187_4) n_187_16 n_187_4
theorem t_187_1 : e_Sn 187 1 (e_un n_187_1) := u_ifeqT rfl (s_ifeq (off := (15)) hq_187 (by decide +kernel) rfl rfl : e_Sn 187 1 (o_ifeq 16 4)) t_187_16 t_187_4
noncomputable def n_187_0 : e_Y := u_ld f_okI f_l1 n_187_1
theorem t_187_0 : e_Sn 187 0 (e_un n_187_0) := u_ldIT f_l1_eq (s_iload (i := .iload_n 1) (len := 1) hq_187 (by decide +kernel) rfl (.inr ⟨1, rfl, rfl, rfl⟩) : e_Sn 187 0 (o_load e_okI 1 1)) t_187_1
noncomputable def e_tb_187 : e_X := (e_lf 0 (e_un n_187_0))
theorem e_tk_187 : e_Tb 187 e_tb_187 := (e_lfT t_187_0)
theorem hq_195 : (e_ml[195]?).map (·.2.1) = some prog_14_method_24_code := rfl
theorem ho_195 : (e_ml[195]?).map (·.1.cls) = some "PlateroomprinterModel" := rfl
theorem hr_195 : (e_ml[195]?).map (·.2.2.2) = some (some .boolean) := rfl
noncomputable def n_195_11 : e_Y := u_tab (o_ret e_okZ)
theorem t_195_11 : e_Sn 195 11 (e_un n_195_11) := u_tabT (s_zret hq_195 hr_195 (by decide +kernel) : e_Sn 195 11 (o_ret e_okZ))
noncomputable def n_195_8 : e_Y := u_callV 12 187 3 22 3 n_187_0 n_195_11
theorem t_195_8 : e_Sn 195 8 (e_un n_195_8) := u_callVT rfl (s_callV (ci := 12) (C := er_12) (T := et_12) (N := 5) (index := 128) hq_195 ho_195 hy_187 hp_187 hc_187 hi_187 hd_187 (List.mem_of_getElem? (i := 1996) (by decide +kernel)) hs_187 (List.mem_of_getElem? (i := 74) (by decide +kernel)) rfl (by decide +kernel) rfl : e_Sn 195 8 (o_callV (e_s1 12 187 3) 3 11)) t_187_0 t_195_11
noncomputable def n_195_7 : e_Y := u_ld f_okI f_l2 n_195_8
theorem t_195_7 : e_Sn 195 7 (e_un n_195_7) := u_ldIT f_l2_eq (s_iload (i := .iload_n 2) (len := 1) hq_195 (by decide +kernel) rfl (.inr ⟨2, rfl, rfl, rfl⟩) : e_Sn 195 7 (o_load e_okI 2 8)) t_195_8
noncomputable def n_195_6 : e_Y := u_ld f_okI f_l1 n_195_7
theorem t_195_6 : e_Sn 195 6 (e_un n_195_6) := u_ldIT f_l1_eq (s_iload (i := .iload_n 1) (len := 1) hq_195 (by decide +kernel) rfl (.inr ⟨1, rfl, rfl, rfl⟩) : e_Sn 195 6 (o_load e_okI 1 7)) t_195_7
noncomputable def n_195_5 : e_Y := u_ld f_okA f_l0 n_195_6
theorem t_195_5 : e_Sn 195 5 (e_un n_195_5) := u_ldAT f_l0_eq (s_aload (i := .aload_n 0) (len := 1) hq_195 (by decide +kernel) rfl (.inr ⟨0, rfl, rfl, rfl⟩) : e_Sn 195 5 (o_load e_okR 0 6)) t_195_6
noncomputable def n_195_2 : e_Y := u_old (o_putf (e_f1 12 0) e_okI 5) n_195_5
theorem t_195_2 : e_Sn 195 2 (e_un n_195_2) := u_oldT (s_putf (ty0 := ey_12) (ok := e_okI) (C := er_12) (T := et_12) (N := 5) (ref := "PlateroomprinterModel") (index := 124) (ci := 12) (k := 0) hq_195 ho_195 ⟨rfl, by decide, ei_12, (List.mem_of_getElem? (i := 1958) (by decide +kernel)), .inl rfl⟩ eo_12 en_12 e_oksI (.inl rfl) (by decide +kernel) rfl : e_Sn 195 2 (o_putf (e_f1 12 0) e_okI 5)) t_195_5 (e_cg_putf (e_f1 12 0) e_okI)
noncomputable def n_195_1 : e_Y := u_push (.inl 2147483648) n_195_2
theorem t_195_1 : e_Sn 195 1 (e_un n_195_1) := u_pushT (s_iconst (n := (0)) hq_195 (by decide +kernel) rfl ⟨by decide +kernel, by decide +kernel⟩ : e_Sn 195 1 (o_push (.inl 2147483648) 2)) t_195_2
noncomputable def n_195_0 : e_Y := u_ld f_okA f_l0 n_195_1
theorem t_195_0 : e_Sn 195 0 (e_un n_195_0) := u_ldAT f_l0_eq (s_aload (i := .aload_n 0) (len := 1) hq_195 (by decide +kernel) rfl (.inr ⟨0, rfl, rfl, rfl⟩) : e_Sn 195 0 (o_load e_okR 0 1)) t_195_1
noncomputable def e_tb_195 : e_X := (e_lf 0 (e_un n_195_0))
theorem e_tk_195 : e_Tb 195 e_tb_195 := (e_lfT t_195_0)
theorem hq_135 : (e_ml[135]?).map (·.2.1) = some prog_14_method_75_code := rfl
theorem ho_135 : (e_ml[135]?).map (·.1.cls) = some "PlateroomprinterModel" := rfl
theorem hr_135 : (e_ml[135]?).map (·.2.2.2) = some (some .boolean) := rfl
noncomputable def n_135_144 : e_Y := u_tab (o_ret e_okZ)
theorem t_135_144 : e_Sn 135 144 (e_un n_135_144) := u_tabT (s_zret hq_135 hr_135 (by decide +kernel) : e_Sn 135 144 (o_ret e_okZ))
noncomputable def n_135_143 : e_Y := u_ld f_okI f_l3 n_135_144
theorem t_135_143 : e_Sn 135 143 (e_un n_135_143) := u_ldIT f_l3_eq (s_iload (i := .iload_n 3) (len := 1) hq_135 (by decide +kernel) rfl (.inr ⟨3, rfl, rfl, rfl⟩) : e_Sn 135 143 (o_load e_okI 3 144)) t_135_144
noncomputable def n_135_140 : e_Y := (u_at 105)
theorem t_135_140 : e_Sn 135 140 (e_un n_135_140) := u_gotoT (s_goto (off := (-35)) hq_135 (by decide +kernel) rfl : e_Sn 135 140 (o_goto 105)) u_atT
noncomputable def n_135_137 : e_Y := u_inc f_l4 f_s4 1 n_135_140
theorem t_135_137 : e_Sn 135 137 (e_un n_135_137) := u_incT f_l4_eq (fun _ _ _ => f_s4_eq) (s_iinc (zz := (1)) hq_135 (by decide +kernel) rfl (by decide +kernel) ⟨by decide, by decide⟩ : e_Sn 135 137 (o_iinc 4 1 140)) t_135_140
noncomputable def n_135_136 : e_Y := u_st f_okI f_s3 n_135_137
theorem t_135_136 : e_Sn 135 136 (e_un n_135_136) := u_stIT (fun _ _ _ => f_s3_eq) (s_istore (i := .istore_n 3) (len := 1) hq_135 (by decide +kernel) rfl (.inr ⟨3, rfl, rfl, rfl⟩) : e_Sn 135 136 (o_store e_okI 3 137)) t_135_137
noncomputable def n_135_135 : e_Y := u_bin a_iand (u_old (o_bin Nat.land 136) n_135_136) n_135_136
theorem t_135_135 : e_Sn 135 135 (e_un n_135_135) := u_iandT (s_iand hq_135 (by decide +kernel) rfl : e_Sn 135 135 (o_bin Nat.land 136)) t_135_136
noncomputable def n_135_131 : e_Y := n_135_135
theorem t_135_131 : e_Sn 135 131 (e_un n_135_131) := u_gotoT (s_goto (off := (4)) hq_135 (by decide +kernel) rfl : e_Sn 135 131 (o_goto 135)) t_135_135
noncomputable def n_135_130 : e_Y := u_push (.inl 2147483649) n_135_131
theorem t_135_130 : e_Sn 135 130 (e_un n_135_130) := u_pushT (s_iconst (n := (1)) hq_135 (by decide +kernel) rfl ⟨by decide +kernel, by decide +kernel⟩ : e_Sn 135 130 (o_push (.inl 2147483649) 131)) t_135_131
noncomputable def n_135_127 : e_Y := u_jmp y_ne (u_old2 (o_ceq 130 134) 130 n_135_130 (u_at 134)) n_135_130 (u_at 134)
theorem t_135_127 : e_Sn 135 127 (e_un n_135_127) := u_ceqT rfl (s_cne (off := (7)) hq_135 (by decide +kernel) rfl rfl : e_Sn 135 127 (o_ceq 130 134)) t_135_130 u_atT
noncomputable def n_135_126 : e_Y := u_ald 1 (u_old (o_aldO 1 127) n_135_127) n_135_127
theorem t_135_126 : e_Sn 135 126 (e_un n_135_126) := u_aldOT (s_zald hq_135 (by decide +kernel) rfl : e_Sn 135 126 (o_aldO 1 127)) t_135_127
noncomputable def n_135_124 : e_Y := u_ld f_okI f_l4 n_135_126
theorem t_135_124 : e_Sn 135 124 (e_un n_135_124) := u_ldIT f_l4_eq (s_iload (i := .iload 4) (len := 2) hq_135 (by decide +kernel) rfl (.inl ⟨rfl, rfl⟩) : e_Sn 135 124 (o_load e_okI 4 126)) t_135_126
noncomputable def n_135_121 : e_Y := u_getf 13 6 (u_old (o_getf (e_f1 13 6) 124) n_135_124) n_135_124
theorem t_135_121 : e_Sn 135 121 (e_un n_135_121) := u_getfT (s_getf (C := er_13) (T := et_13) (N := 13) (ref := "PlateroomprinterModel$Machine") (index := 324) (ci := 13) (k := 6) hq_135 ho_135 ⟨rfl, by decide, ei_13, (List.mem_of_getElem? (i := 1910) (by decide +kernel)), .inl rfl⟩ (by decide +kernel) rfl : e_Sn 135 121 (o_getf (e_f1 13 6) 124)) t_135_124
noncomputable def n_135_118 : e_Y := u_getf 12 1 (u_old (o_getf (e_f1 12 1) 121) n_135_121) n_135_121
theorem t_135_118 : e_Sn 135 118 (e_un n_135_118) := u_getfT (s_getf (C := er_12) (T := et_12) (N := 5) (ref := "PlateroomprinterModel") (index := 10) (ci := 12) (k := 1) hq_135 ho_135 ⟨rfl, by decide, ei_12, (List.mem_of_getElem? (i := 1959) (by decide +kernel)), .inl rfl⟩ (by decide +kernel) rfl : e_Sn 135 118 (o_getf (e_f1 12 1) 121)) t_135_121
noncomputable def n_135_117 : e_Y := u_ld f_okA f_l0 n_135_118
theorem t_135_117 : e_Sn 135 117 (e_un n_135_117) := u_ldAT f_l0_eq (s_aload (i := .aload_n 0) (len := 1) hq_135 (by decide +kernel) rfl (.inr ⟨0, rfl, rfl, rfl⟩) : e_Sn 135 117 (o_load e_okR 0 118)) t_135_118
noncomputable def n_135_116 : e_Y := u_ald 1 (u_old (o_aldO 1 117) n_135_117) n_135_117
theorem t_135_116 : e_Sn 135 116 (e_un n_135_116) := u_aldOT (s_zald hq_135 (by decide +kernel) rfl : e_Sn 135 116 (o_aldO 1 117)) t_135_117
noncomputable def n_135_114 : e_Y := u_ld f_okI f_l4 n_135_116
theorem t_135_114 : e_Sn 135 114 (e_un n_135_114) := u_ldIT f_l4_eq (s_iload (i := .iload 4) (len := 2) hq_135 (by decide +kernel) rfl (.inl ⟨rfl, rfl⟩) : e_Sn 135 114 (o_load e_okI 4 116)) t_135_116
noncomputable def n_135_113 : e_Y := u_ld f_okA f_l2 n_135_114
theorem t_135_113 : e_Sn 135 113 (e_un n_135_113) := u_ldAT f_l2_eq (s_aload (i := .aload_n 2) (len := 1) hq_135 (by decide +kernel) rfl (.inr ⟨2, rfl, rfl, rfl⟩) : e_Sn 135 113 (o_load e_okR 2 114)) t_135_114
noncomputable def n_135_112 : e_Y := u_ld f_okI f_l3 n_135_113
theorem t_135_112 : e_Sn 135 112 (e_un n_135_112) := u_ldIT f_l3_eq (s_iload (i := .iload_n 3) (len := 1) hq_135 (by decide +kernel) rfl (.inr ⟨3, rfl, rfl, rfl⟩) : e_Sn 135 112 (o_load e_okI 3 113)) t_135_113
noncomputable def n_135_109 : e_Y := u_jmp y_ge (u_old2 (o_clt 112 143) 112 n_135_112 n_135_143) n_135_112 n_135_143
theorem t_135_109 : e_Sn 135 109 (e_un n_135_109) := u_cltT rfl (s_cge (off := (34)) hq_135 (by decide +kernel) rfl rfl : e_Sn 135 109 (o_clt 112 143)) t_135_112 t_135_143
noncomputable def n_135_108 : e_Y := u_old (o_alen e_fcs 109) n_135_109
theorem t_135_108 : e_Sn 135 108 (e_un n_135_108) := u_oldT (s_alen hq_135 (by decide +kernel) rfl : e_Sn 135 108 (o_alen e_fcs 109)) t_135_109 (e_cg_alen e_fcs)
noncomputable def n_135_107 : e_Y := u_ld f_okA f_l2 n_135_108
theorem t_135_107 : e_Sn 135 107 (e_un n_135_107) := u_ldAT f_l2_eq (s_aload (i := .aload_n 2) (len := 1) hq_135 (by decide +kernel) rfl (.inr ⟨2, rfl, rfl, rfl⟩) : e_Sn 135 107 (o_load e_okR 2 108)) t_135_108
noncomputable def n_135_105 : e_Y := u_ld f_okI f_l4 n_135_107
theorem t_135_105 : e_Sn 135 105 (e_un n_135_105) := u_ldIT f_l4_eq (s_iload (i := .iload 4) (len := 2) hq_135 (by decide +kernel) rfl (.inl ⟨rfl, rfl⟩) : e_Sn 135 105 (o_load e_okI 4 107)) t_135_107
noncomputable def n_135_103 : e_Y := u_st f_okI f_s4 n_135_105
theorem t_135_103 : e_Sn 135 103 (e_un n_135_103) := u_stIT (fun _ _ _ => f_s4_eq) (s_istore (i := .istore 4) (len := 2) hq_135 (by decide +kernel) rfl (.inl ⟨rfl, rfl⟩) : e_Sn 135 103 (o_store e_okI 4 105)) t_135_105
noncomputable def n_135_102 : e_Y := u_push (.inl 2147483648) n_135_103
theorem t_135_102 : e_Sn 135 102 (e_un n_135_102) := u_pushT (s_iconst (n := (0)) hq_135 (by decide +kernel) rfl ⟨by decide +kernel, by decide +kernel⟩ : e_Sn 135 102 (o_push (.inl 2147483648) 103)) t_135_103
noncomputable def n_135_101 : e_Y := u_st f_okI f_s3 n_135_102
theorem t_135_101 : e_Sn 135 101 (e_un n_135_101) := u_stIT (fun _ _ _ => f_s3_eq) (s_istore (i := .istore_n 3) (len := 1) hq_135 (by decide +kernel) rfl (.inr ⟨3, rfl, rfl, rfl⟩) : e_Sn 135 101 (o_store e_okI 3 102)) t_135_102
noncomputable def n_135_100 : e_Y := u_push (.inl 2147483649) n_135_101
theorem t_135_100 : e_Sn 135 100 (e_un n_135_100) := u_pushT (s_iconst (n := (1)) hq_135 (by decide +kernel) rfl ⟨by decide +kernel, by decide +kernel⟩ : e_Sn 135 100 (o_push (.inl 2147483649) 101)) t_135_101
noncomputable def n_135_97 : e_Y := (u_at 35)
theorem t_135_97 : e_Sn 135 97 (e_un n_135_97) := u_gotoT (s_goto (off := (-62)) hq_135 (by decide +kernel) rfl : e_Sn 135 97 (o_goto 35)) u_atT
noncomputable def n_135_96 : e_Y := u_st f_okI f_s3 n_135_97
theorem t_135_96 : e_Sn 135 96 (e_un n_135_96) := u_stIT (fun _ _ _ => f_s3_eq) (s_istore (i := .istore_n 3) (len := 1) hq_135 (by decide +kernel) rfl (.inr ⟨3, rfl, rfl, rfl⟩) : e_Sn 135 96 (o_store e_okI 3 97)) t_135_97
noncomputable def n_135_95 : e_Y := u_bin a_iadd (u_old (o_iadd 96) n_135_96) n_135_96
theorem t_135_95 : e_Sn 135 95 (e_un n_135_95) := u_iaddT (s_iadd hq_135 (by decide +kernel) rfl : e_Sn 135 95 (o_iadd 96)) t_135_96
noncomputable def n_135_94 : e_Y := u_ld f_okI f_l1 n_135_95
theorem t_135_94 : e_Sn 135 94 (e_un n_135_94) := u_ldIT f_l1_eq (s_iload (i := .iload_n 1) (len := 1) hq_135 (by decide +kernel) rfl (.inr ⟨1, rfl, rfl, rfl⟩) : e_Sn 135 94 (o_load e_okI 1 95)) t_135_95
noncomputable def n_135_93 : e_Y := u_ld f_okI f_l3 n_135_94
theorem t_135_93 : e_Sn 135 93 (e_un n_135_93) := u_ldIT f_l3_eq (s_iload (i := .iload_n 3) (len := 1) hq_135 (by decide +kernel) rfl (.inr ⟨3, rfl, rfl, rfl⟩) : e_Sn 135 93 (o_load e_okI 3 94)) t_135_94
noncomputable def n_135_56 : e_Y := u_jmp y_ge (u_old2 (o_clt 59 93) 59 (u_at 59) n_135_93) (u_at 59) n_135_93
theorem t_135_56 : e_Sn 135 56 (e_un n_135_56) := u_cltT rfl (s_cge (off := (37)) hq_135 (by decide +kernel) rfl rfl : e_Sn 135 56 (o_clt 59 93)) u_atT t_135_93
noncomputable def n_135_53 : e_Y := u_callV 18 234 1 20 1 n_234_0 n_135_56
theorem t_135_53 : e_Sn 135 53 (e_un n_135_53) := u_callVT rfl (s_callV (ci := 18) (C := er_18) (T := et_18) (N := 3) (index := 74) hq_135 ho_135 hy_234 hp_234 hc_234 hi_234 hd_234 (List.mem_of_getElem? (i := 2000) (by decide +kernel)) hs_234 (List.mem_of_getElem? (i := 2002) (by decide +kernel)) rfl (by decide +kernel) rfl : e_Sn 135 53 (o_callV (e_s1 18 234 1) 1 56)) t_234_0 t_135_56
noncomputable def n_135_50 : e_Y := u_getf 13 5 (u_old (o_getf (e_f1 13 5) 53) n_135_53) n_135_53
theorem t_135_50 : e_Sn 135 50 (e_un n_135_50) := u_getfT (s_getf (C := er_13) (T := et_13) (N := 13) (ref := "PlateroomprinterModel$Machine") (index := 311) (ci := 13) (k := 5) hq_135 ho_135 ⟨rfl, by decide, ei_13, (List.mem_of_getElem? (i := 1907) (by decide +kernel)), .inl rfl⟩ (by decide +kernel) rfl : e_Sn 135 50 (o_getf (e_f1 13 5) 53)) t_135_53
noncomputable def n_135_47 : e_Y := u_getf 12 1 (u_old (o_getf (e_f1 12 1) 50) n_135_50) n_135_50
theorem t_135_47 : e_Sn 135 47 (e_un n_135_47) := u_getfT (s_getf (C := er_12) (T := et_12) (N := 5) (ref := "PlateroomprinterModel") (index := 10) (ci := 12) (k := 1) hq_135 ho_135 ⟨rfl, by decide, ei_12, (List.mem_of_getElem? (i := 1959) (by decide +kernel)), .inl rfl⟩ (by decide +kernel) rfl : e_Sn 135 47 (o_getf (e_f1 12 1) 50)) t_135_50
noncomputable def n_135_46 : e_Y := u_ld f_okA f_l0 n_135_47
theorem t_135_46 : e_Sn 135 46 (e_un n_135_46) := u_ldAT f_l0_eq (s_aload (i := .aload_n 0) (len := 1) hq_135 (by decide +kernel) rfl (.inr ⟨0, rfl, rfl, rfl⟩) : e_Sn 135 46 (o_load e_okR 0 47)) t_135_47
noncomputable def n_135_44 : e_Y := u_ld f_okI f_l4 n_135_46
theorem t_135_44 : e_Sn 135 44 (e_un n_135_44) := u_ldIT f_l4_eq (s_iload (i := .iload 4) (len := 2) hq_135 (by decide +kernel) rfl (.inl ⟨rfl, rfl⟩) : e_Sn 135 44 (o_load e_okI 4 46)) t_135_46
noncomputable def n_135_42 : e_Y := u_st f_okI f_s4 n_135_44
theorem t_135_42 : e_Sn 135 42 (e_un n_135_42) := u_stIT (fun _ _ _ => f_s4_eq) (s_istore (i := .istore 4) (len := 2) hq_135 (by decide +kernel) rfl (.inl ⟨rfl, rfl⟩) : e_Sn 135 42 (o_store e_okI 4 44)) t_135_44
noncomputable def n_135_41 : e_Y := u_push (.inl 2147483648) n_135_42
theorem t_135_41 : e_Sn 135 41 (e_un n_135_41) := u_pushT (s_iconst (n := (0)) hq_135 (by decide +kernel) rfl ⟨by decide +kernel, by decide +kernel⟩ : e_Sn 135 41 (o_push (.inl 2147483648) 42)) t_135_42
noncomputable def n_135_38 : e_Y := u_jmp y_ge (u_old2 (o_clt 41 100) 41 n_135_41 n_135_100) n_135_41 n_135_100
theorem t_135_38 : e_Sn 135 38 (e_un n_135_38) := u_cltT rfl (s_cge (off := (62)) hq_135 (by decide +kernel) rfl rfl : e_Sn 135 38 (o_clt 41 100)) t_135_41 t_135_100
noncomputable def n_135_36 : e_Y := u_push (.inl 2147483680) n_135_38
theorem t_135_36 : e_Sn 135 36 (e_un n_135_36) := u_pushT (s_bipush (n := (32)) hq_135 (by decide +kernel) rfl ⟨by decide +kernel, by decide +kernel⟩ : e_Sn 135 36 (o_push (.inl 2147483680) 38)) t_135_38
noncomputable def n_135_35 : e_Y := u_ld f_okI f_l3 n_135_36
theorem t_135_35 : e_Sn 135 35 (e_un n_135_35) := u_ldIT f_l3_eq (s_iload (i := .iload_n 3) (len := 1) hq_135 (by decide +kernel) rfl (.inr ⟨3, rfl, rfl, rfl⟩) : e_Sn 135 35 (o_load e_okI 3 36)) t_135_36
noncomputable def n_135_34 : e_Y := u_st f_okI f_s3 n_135_35
theorem t_135_34 : e_Sn 135 34 (e_un n_135_34) := u_stIT (fun _ _ _ => f_s3_eq) (s_istore (i := .istore_n 3) (len := 1) hq_135 (by decide +kernel) rfl (.inr ⟨3, rfl, rfl, rfl⟩) : e_Sn 135 34 (o_store e_okI 3 35)) t_135_35
noncomputable def n_135_33 : e_Y := u_push (.inl 2147483648) n_135_34
theorem t_135_33 : e_Sn 135 33 (e_un n_135_33) := u_pushT (s_iconst (n := (0)) hq_135 (by decide +kernel) rfl ⟨by decide +kernel, by decide +kernel⟩ : e_Sn 135 33 (o_push (.inl 2147483648) 34)) t_135_34
noncomputable def n_135_32 : e_Y := u_st f_okA f_s2 n_135_33
theorem t_135_32 : e_Sn 135 32 (e_un n_135_32) := u_stAT (fun _ _ _ => f_s2_eq) (s_astore (i := .astore_n 2) (len := 1) hq_135 (by decide +kernel) rfl (.inr ⟨2, rfl, rfl, rfl⟩) : e_Sn 135 32 (o_store e_okR 2 33)) t_135_33
noncomputable def n_135_30 : e_Y := u_tab (o_newa 1 (e_I 2147483648) 32)
theorem t_135_30 : e_Sn 135 30 (e_un n_135_30) := u_tabT (s_newZ (List.mem_of_getElem? (i := 1819) (by decide +kernel)) hq_135 (by decide +kernel) rfl : e_Sn 135 30 (o_newa 1 (e_I 2147483648) 32))
noncomputable def n_135_27 : e_Y := u_push (.inl 2147487744) n_135_30
theorem t_135_27 : e_Sn 135 27 (e_un n_135_27) := u_pushT (s_sipush (n := (4096)) hq_135 (by decide +kernel) rfl ⟨by decide +kernel, by decide +kernel⟩ : e_Sn 135 27 (o_push (.inl 2147487744) 30)) t_135_30
noncomputable def n_135_26 : e_Y := u_tab (o_ret e_okZ)
theorem t_135_26 : e_Sn 135 26 (e_un n_135_26) := u_tabT (s_zret hq_135 hr_135 (by decide +kernel) : e_Sn 135 26 (o_ret e_okZ))
noncomputable def n_135_25 : e_Y := u_push (.inl 2147483648) n_135_26
theorem t_135_25 : e_Sn 135 25 (e_un n_135_25) := u_pushT (s_iconst (n := (0)) hq_135 (by decide +kernel) rfl ⟨by decide +kernel, by decide +kernel⟩ : e_Sn 135 25 (o_push (.inl 2147483648) 26)) t_135_26
noncomputable def n_135_22 : e_Y := u_if y_ne0 (u_old2 (o_ifeq 27 25) 27 n_135_27 n_135_25) n_135_27 n_135_25
theorem t_135_22 : e_Sn 135 22 (e_un n_135_22) := u_ifeqT rfl (s_ifeq (off := (5)) hq_135 (by decide +kernel) rfl rfl : e_Sn 135 22 (o_ifeq 27 25)) t_135_27 t_135_25
noncomputable def n_135_19 : e_Y := u_callV 12 195 3 22 3 n_195_0 n_135_22
theorem t_135_19 : e_Sn 135 19 (e_un n_135_19) := u_callVT rfl (s_callV (ci := 12) (C := er_12) (T := et_12) (N := 5) (index := 148) hq_135 ho_135 hy_195 hp_195 hc_195 hi_195 hd_195 (List.mem_of_getElem? (i := 1992) (by decide +kernel)) hs_195 (List.mem_of_getElem? (i := 73) (by decide +kernel)) rfl (by decide +kernel) rfl : e_Sn 135 19 (o_callV (e_s1 12 195 3) 3 22)) t_195_0 t_135_22
noncomputable def n_135_18 : e_Y := u_push (.inl 2147483649) n_135_19
theorem t_135_18 : e_Sn 135 18 (e_un n_135_18) := u_pushT (s_iconst (n := (1)) hq_135 (by decide +kernel) rfl ⟨by decide +kernel, by decide +kernel⟩ : e_Sn 135 18 (o_push (.inl 2147483649) 19)) t_135_19
noncomputable def n_135_17 : e_Y := u_push (.inl 2147483648) n_135_18
theorem t_135_17 : e_Sn 135 17 (e_un n_135_17) := u_pushT (s_iconst (n := (0)) hq_135 (by decide +kernel) rfl ⟨by decide +kernel, by decide +kernel⟩ : e_Sn 135 17 (o_push (.inl 2147483648) 18)) t_135_18
noncomputable def n_135_14 : e_Y := n_135_18
theorem t_135_14 : e_Sn 135 14 (e_un n_135_14) := u_gotoT (s_goto (off := (4)) hq_135 (by decide +kernel) rfl : e_Sn 135 14 (o_goto 18)) t_135_18
noncomputable def n_135_13 : e_Y := u_push (.inl 2147483649) n_135_14
theorem t_135_13 : e_Sn 135 13 (e_un n_135_13) := u_pushT (s_iconst (n := (1)) hq_135 (by decide +kernel) rfl ⟨by decide +kernel, by decide +kernel⟩ : e_Sn 135 13 (o_push (.inl 2147483649) 14)) t_135_14
noncomputable def n_135_10 : e_Y := u_if y_ne0 (u_old2 (o_ifeq 13 17) 13 n_135_13 n_135_17) n_135_13 n_135_17
theorem t_135_10 : e_Sn 135 10 (e_un n_135_10) := u_ifeqT rfl (s_ifne (off := (7)) hq_135 (by decide +kernel) rfl rfl : e_Sn 135 10 (o_ifeq 13 17)) t_135_13 t_135_17
noncomputable def n_135_7 : e_Y := u_callS 162 6 25 3 n_162_0 n_135_10
theorem t_135_7 : e_Sn 135 7 (e_un n_135_7) := u_callST rfl (s_callS (index := 136) hq_135 ho_135 hy_162 hp_162 hc_162 hi_162 hd_162 (List.mem_of_getElem? (i := 1987) (by decide +kernel)) hs_162 (by decide +kernel) rfl : e_Sn 135 7 (o_callS 162 6 3 10)) t_162_0 t_135_10
noncomputable def n_135_4 : e_Y := u_push (e_L 9223372036854775840) n_135_7
theorem t_135_4 : e_Sn 135 4 (e_un n_135_4) := u_pushT (s_ldc2 (index := 342) (v := (32)) hq_135 ho_135 (List.mem_of_getElem? (i := 3086) (by decide +kernel)) (by decide +kernel) rfl ⟨by decide +kernel, by decide +kernel⟩ : e_Sn 135 4 (o_push (e_L 9223372036854775840) 7)) t_135_7
noncomputable def n_135_3 : e_Y := u_push (e_L 9223372036854775809) n_135_4
theorem t_135_3 : e_Sn 135 3 (e_un n_135_3) := u_pushT (s_lconst (n := 1) hq_135 (by decide +kernel) rfl ⟨by decide +kernel, by decide +kernel⟩ : e_Sn 135 3 (o_push (e_L 9223372036854775809) 4)) t_135_4
noncomputable def n_135_2 : e_Y := u_old (o_i2l 3) n_135_3
theorem t_135_2 : e_Sn 135 2 (e_un n_135_2) := u_oldT (s_i2l hq_135 (by decide +kernel) rfl : e_Sn 135 2 (o_i2l 3)) t_135_3 e_congr_i2l
noncomputable def n_135_1 : e_Y := u_ld f_okI f_l1 n_135_2
theorem t_135_1 : e_Sn 135 1 (e_un n_135_1) := u_ldIT f_l1_eq (s_iload (i := .iload_n 1) (len := 1) hq_135 (by decide +kernel) rfl (.inr ⟨1, rfl, rfl, rfl⟩) : e_Sn 135 1 (o_load e_okI 1 2)) t_135_2
noncomputable def n_135_0 : e_Y := u_ld f_okA f_l0 n_135_1
theorem t_135_0 : e_Sn 135 0 (e_un n_135_0) := u_ldAT f_l0_eq (s_aload (i := .aload_n 0) (len := 1) hq_135 (by decide +kernel) rfl (.inr ⟨0, rfl, rfl, rfl⟩) : e_Sn 135 0 (o_load e_okR 0 1)) t_135_1
noncomputable def e_tb_135 : e_X := (e_br 35 (e_br 32 (e_lf 0 (e_un n_135_0)) (e_lf 32 (e_un n_135_32))) (e_br 105 (e_lf 35 (e_un n_135_35)) (e_lf 105 (e_un n_135_105))))
theorem e_tk_135 : e_Tb 135 e_tb_135 := (e_brT (e_brT (e_lfT t_135_0) (e_lfT t_135_32)) (e_brT (e_lfT t_135_35) (e_lfT t_135_105)))
theorem hq_136 : (e_ml[136]?).map (·.2.1) = some prog_14_method_68_code := rfl
theorem ho_136 : (e_ml[136]?).map (·.1.cls) = some "PlateroomprinterModel" := rfl
theorem hr_136 : (e_ml[136]?).map (·.2.2.2) = some (some .int) := rfl
noncomputable def n_136_35 : e_Y := u_retI
theorem t_136_35 : e_Sn 136 35 (e_un n_136_35) := u_retIT (s_iret hq_136 hr_136 (by decide +kernel) : e_Sn 136 35 (o_ret e_okI))
noncomputable def n_136_34 : e_Y := u_ld f_okI f_l2 n_136_35
theorem t_136_34 : e_Sn 136 34 (e_un n_136_34) := u_ldIT f_l2_eq (s_iload (i := .iload_n 2) (len := 1) hq_136 (by decide +kernel) rfl (.inr ⟨2, rfl, rfl, rfl⟩) : e_Sn 136 34 (o_load e_okI 2 35)) t_136_35
noncomputable def n_136_31 : e_Y := (u_at 4)
theorem t_136_31 : e_Sn 136 31 (e_un n_136_31) := u_gotoT (s_goto (off := (-27)) hq_136 (by decide +kernel) rfl : e_Sn 136 31 (o_goto 4)) u_atT
noncomputable def n_136_28 : e_Y := u_inc f_l3 f_s3 1 n_136_31
theorem t_136_28 : e_Sn 136 28 (e_un n_136_28) := u_incT f_l3_eq (fun _ _ _ => f_s3_eq) (s_iinc (zz := (1)) hq_136 (by decide +kernel) rfl (by decide +kernel) ⟨by decide, by decide⟩ : e_Sn 136 28 (o_iinc 3 1 31)) t_136_31
noncomputable def n_136_27 : e_Y := u_st f_okI f_s2 n_136_28
theorem t_136_27 : e_Sn 136 27 (e_un n_136_27) := u_stIT (fun _ _ _ => f_s2_eq) (s_istore (i := .istore_n 2) (len := 1) hq_136 (by decide +kernel) rfl (.inr ⟨2, rfl, rfl, rfl⟩) : e_Sn 136 27 (o_store e_okI 2 28)) t_136_28
noncomputable def n_136_26 : e_Y := u_bin a_iadd (u_old (o_iadd 27) n_136_27) n_136_27
theorem t_136_26 : e_Sn 136 26 (e_un n_136_26) := u_iaddT (s_iadd hq_136 (by decide +kernel) rfl : e_Sn 136 26 (o_iadd 27)) t_136_27
noncomputable def n_136_25 : e_Y := u_bin a_ishl (u_old (o_ishl 26) n_136_26) n_136_26
theorem t_136_25 : e_Sn 136 25 (e_un n_136_25) := u_ishlT (s_ishl hq_136 (by decide +kernel) rfl : e_Sn 136 25 (o_ishl 26)) t_136_26
noncomputable def n_136_24 : e_Y := u_ld f_okI f_l3 n_136_25
theorem t_136_24 : e_Sn 136 24 (e_un n_136_24) := u_ldIT f_l3_eq (s_iload (i := .iload_n 3) (len := 1) hq_136 (by decide +kernel) rfl (.inr ⟨3, rfl, rfl, rfl⟩) : e_Sn 136 24 (o_load e_okI 3 25)) t_136_25
noncomputable def n_136_21 : e_Y := u_callS 180 1 20 1 n_180_0 n_136_24
theorem t_136_21 : e_Sn 136 21 (e_un n_136_21) := u_callST rfl (s_callS (index := 107) hq_136 ho_136 hy_180 hp_180 hc_180 hi_180 hd_180 (List.mem_of_getElem? (i := 2482) (by decide +kernel)) hs_180 (by decide +kernel) rfl : e_Sn 136 21 (o_callS 180 1 1 24)) t_180_0 t_136_24
noncomputable def n_136_20 : e_Y := u_ald 1 (u_old (o_aldO 1 21) n_136_21) n_136_21
theorem t_136_20 : e_Sn 136 20 (e_un n_136_20) := u_aldOT (s_zald hq_136 (by decide +kernel) rfl : e_Sn 136 20 (o_aldO 1 21)) t_136_21
noncomputable def n_136_19 : e_Y := u_bin a_iadd (u_old (o_iadd 20) n_136_20) n_136_20
theorem t_136_19 : e_Sn 136 19 (e_un n_136_19) := u_iaddT (s_iadd hq_136 (by decide +kernel) rfl : e_Sn 136 19 (o_iadd 20)) t_136_20
noncomputable def n_136_18 : e_Y := u_ld f_okI f_l1 n_136_19
theorem t_136_18 : e_Sn 136 18 (e_un n_136_18) := u_ldIT f_l1_eq (s_iload (i := .iload_n 1) (len := 1) hq_136 (by decide +kernel) rfl (.inr ⟨1, rfl, rfl, rfl⟩) : e_Sn 136 18 (o_load e_okI 1 19)) t_136_19
noncomputable def n_136_17 : e_Y := u_bin a_imul (u_old (o_imul 18) n_136_18) n_136_18
theorem t_136_17 : e_Sn 136 17 (e_un n_136_17) := u_imulT (s_imul hq_136 (by decide +kernel) rfl : e_Sn 136 17 (o_imul 18)) t_136_18
noncomputable def n_136_15 : e_Y := u_push (.inl 2147483680) n_136_17
theorem t_136_15 : e_Sn 136 15 (e_un n_136_15) := u_pushT (s_bipush (n := (32)) hq_136 (by decide +kernel) rfl ⟨by decide +kernel, by decide +kernel⟩ : e_Sn 136 15 (o_push (.inl 2147483680) 17)) t_136_17
noncomputable def n_136_14 : e_Y := u_bin a_imul (u_old (o_imul 15) n_136_15) n_136_15
theorem t_136_14 : e_Sn 136 14 (e_un n_136_14) := u_imulT (s_imul hq_136 (by decide +kernel) rfl : e_Sn 136 14 (o_imul 15)) t_136_15
noncomputable def n_136_12 : e_Y := u_push (.inl 2147483680) n_136_14
theorem t_136_12 : e_Sn 136 12 (e_un n_136_12) := u_pushT (s_bipush (n := (32)) hq_136 (by decide +kernel) rfl ⟨by decide +kernel, by decide +kernel⟩ : e_Sn 136 12 (o_push (.inl 2147483680) 14)) t_136_14
noncomputable def n_136_11 : e_Y := u_ld f_okI f_l3 n_136_12
theorem t_136_11 : e_Sn 136 11 (e_un n_136_11) := u_ldIT f_l3_eq (s_iload (i := .iload_n 3) (len := 1) hq_136 (by decide +kernel) rfl (.inr ⟨3, rfl, rfl, rfl⟩) : e_Sn 136 11 (o_load e_okI 3 12)) t_136_12
noncomputable def n_136_10 : e_Y := u_ld f_okA f_l0 n_136_11
theorem t_136_10 : e_Sn 136 10 (e_un n_136_10) := u_ldAT f_l0_eq (s_aload (i := .aload_n 0) (len := 1) hq_136 (by decide +kernel) rfl (.inr ⟨0, rfl, rfl, rfl⟩) : e_Sn 136 10 (o_load e_okR 0 11)) t_136_11
noncomputable def n_136_9 : e_Y := u_ld f_okI f_l2 n_136_10
theorem t_136_9 : e_Sn 136 9 (e_un n_136_9) := u_ldIT f_l2_eq (s_iload (i := .iload_n 2) (len := 1) hq_136 (by decide +kernel) rfl (.inr ⟨2, rfl, rfl, rfl⟩) : e_Sn 136 9 (o_load e_okI 2 10)) t_136_10
noncomputable def n_136_6 : e_Y := u_jmp y_ge (u_old2 (o_clt 9 34) 9 n_136_9 n_136_34) n_136_9 n_136_34
theorem t_136_6 : e_Sn 136 6 (e_un n_136_6) := u_cltT rfl (s_cge (off := (28)) hq_136 (by decide +kernel) rfl rfl : e_Sn 136 6 (o_clt 9 34)) t_136_9 t_136_34
noncomputable def n_136_5 : e_Y := u_push (.inl 2147483652) n_136_6
theorem t_136_5 : e_Sn 136 5 (e_un n_136_5) := u_pushT (s_iconst (n := (4)) hq_136 (by decide +kernel) rfl ⟨by decide +kernel, by decide +kernel⟩ : e_Sn 136 5 (o_push (.inl 2147483652) 6)) t_136_6
noncomputable def n_136_4 : e_Y := u_ld f_okI f_l3 n_136_5
theorem t_136_4 : e_Sn 136 4 (e_un n_136_4) := u_ldIT f_l3_eq (s_iload (i := .iload_n 3) (len := 1) hq_136 (by decide +kernel) rfl (.inr ⟨3, rfl, rfl, rfl⟩) : e_Sn 136 4 (o_load e_okI 3 5)) t_136_5
noncomputable def n_136_3 : e_Y := u_st f_okI f_s3 n_136_4
theorem t_136_3 : e_Sn 136 3 (e_un n_136_3) := u_stIT (fun _ _ _ => f_s3_eq) (s_istore (i := .istore_n 3) (len := 1) hq_136 (by decide +kernel) rfl (.inr ⟨3, rfl, rfl, rfl⟩) : e_Sn 136 3 (o_store e_okI 3 4)) t_136_4
noncomputable def n_136_2 : e_Y := u_push (.inl 2147483648) n_136_3
theorem t_136_2 : e_Sn 136 2 (e_un n_136_2) := u_pushT (s_iconst (n := (0)) hq_136 (by decide +kernel) rfl ⟨by decide +kernel, by decide +kernel⟩ : e_Sn 136 2 (o_push (.inl 2147483648) 3)) t_136_3
noncomputable def n_136_1 : e_Y := u_st f_okI f_s2 n_136_2
theorem t_136_1 : e_Sn 136 1 (e_un n_136_1) := u_stIT (fun _ _ _ => f_s2_eq) (s_istore (i := .istore_n 2) (len := 1) hq_136 (by decide +kernel) rfl (.inr ⟨2, rfl, rfl, rfl⟩) : e_Sn 136 1 (o_store e_okI 2 2)) t_136_2
noncomputable def n_136_0 : e_Y := u_push (.inl 2147483648) n_136_1
theorem t_136_0 : e_Sn 136 0 (e_un n_136_0) := u_pushT (s_iconst (n := (0)) hq_136 (by decide +kernel) rfl ⟨by decide +kernel, by decide +kernel⟩ : e_Sn 136 0 (o_push (.inl 2147483648) 1)) t_136_1
noncomputable def e_tb_136 : e_X := (e_br 4 (e_lf 0 (e_un n_136_0)) (e_lf 4 (e_un n_136_4)))
theorem e_tk_136 : e_Tb 136 e_tb_136 := (e_brT (e_lfT t_136_0) (e_lfT t_136_4))
theorem hq_138 : (e_ml[138]?).map (·.2.1) = some prog_14_method_20_code := rfl
theorem ho_138 : (e_ml[138]?).map (·.1.cls) = some "PlateroomprinterModel" := rfl
theorem hr_138 : (e_ml[138]?).map (·.2.2.2) = some (some (.array .int)) := rfl
noncomputable def n_138_26 : e_Y := u_retA
theorem t_138_26 : e_Sn 138 26 (e_un n_138_26) := u_retAT (s_aret (.inr ⟨_, rfl⟩) hq_138 hr_138 (by decide +kernel) : e_Sn 138 26 (o_ret e_okR))
noncomputable def n_138_25 : e_Y := u_ld f_okA f_l1 n_138_26
theorem t_138_25 : e_Sn 138 25 (e_un n_138_25) := u_ldAT f_l1_eq (s_aload (i := .aload_n 1) (len := 1) hq_138 (by decide +kernel) rfl (.inr ⟨1, rfl, rfl, rfl⟩) : e_Sn 138 25 (o_load e_okR 1 26)) t_138_26
noncomputable def n_138_22 : e_Y := (u_at 7)
theorem t_138_22 : e_Sn 138 22 (e_un n_138_22) := u_gotoT (s_goto (off := (-15)) hq_138 (by decide +kernel) rfl : e_Sn 138 22 (o_goto 7)) u_atT
noncomputable def n_138_19 : e_Y := u_inc f_l2 f_s2 1 n_138_22
theorem t_138_19 : e_Sn 138 19 (e_un n_138_19) := u_incT f_l2_eq (fun _ _ _ => f_s2_eq) (s_iinc (zz := (1)) hq_138 (by decide +kernel) rfl (by decide +kernel) ⟨by decide, by decide⟩ : e_Sn 138 19 (o_iinc 2 1 22)) t_138_22
noncomputable def n_138_18 : e_Y := u_old (o_ast 0 e_okI 19) n_138_19
theorem t_138_18 : e_Sn 138 18 (e_un n_138_18) := u_oldT (s_iast hq_138 (by decide +kernel) rfl : e_Sn 138 18 (o_ast 0 e_okI 19)) t_138_19 (e_cg_ast 0 e_okI)
noncomputable def n_138_17 : e_Y := u_ald 0 (u_old (o_ald e_fcs 18) n_138_18) n_138_18
theorem t_138_17 : e_Sn 138 17 (e_un n_138_17) := u_aldT (s_iald hq_138 (by decide +kernel) rfl : e_Sn 138 17 (o_ald e_fcs 18)) t_138_18
noncomputable def n_138_16 : e_Y := u_ld f_okI f_l2 n_138_17
theorem t_138_16 : e_Sn 138 16 (e_un n_138_16) := u_ldIT f_l2_eq (s_iload (i := .iload_n 2) (len := 1) hq_138 (by decide +kernel) rfl (.inr ⟨2, rfl, rfl, rfl⟩) : e_Sn 138 16 (o_load e_okI 2 17)) t_138_17
noncomputable def n_138_15 : e_Y := u_ld f_okA f_l0 n_138_16
theorem t_138_15 : e_Sn 138 15 (e_un n_138_15) := u_ldAT f_l0_eq (s_aload (i := .aload_n 0) (len := 1) hq_138 (by decide +kernel) rfl (.inr ⟨0, rfl, rfl, rfl⟩) : e_Sn 138 15 (o_load e_okR 0 16)) t_138_16
noncomputable def n_138_14 : e_Y := u_ld f_okI f_l2 n_138_15
theorem t_138_14 : e_Sn 138 14 (e_un n_138_14) := u_ldIT f_l2_eq (s_iload (i := .iload_n 2) (len := 1) hq_138 (by decide +kernel) rfl (.inr ⟨2, rfl, rfl, rfl⟩) : e_Sn 138 14 (o_load e_okI 2 15)) t_138_15
noncomputable def n_138_13 : e_Y := u_ld f_okA f_l1 n_138_14
theorem t_138_13 : e_Sn 138 13 (e_un n_138_13) := u_ldAT f_l1_eq (s_aload (i := .aload_n 1) (len := 1) hq_138 (by decide +kernel) rfl (.inr ⟨1, rfl, rfl, rfl⟩) : e_Sn 138 13 (o_load e_okR 1 14)) t_138_14
noncomputable def n_138_10 : e_Y := u_jmp y_ge (u_old2 (o_clt 13 25) 13 n_138_13 n_138_25) n_138_13 n_138_25
theorem t_138_10 : e_Sn 138 10 (e_un n_138_10) := u_cltT rfl (s_cge (off := (15)) hq_138 (by decide +kernel) rfl rfl : e_Sn 138 10 (o_clt 13 25)) t_138_13 t_138_25
noncomputable def n_138_9 : e_Y := u_old (o_alen e_fcs 10) n_138_10
theorem t_138_9 : e_Sn 138 9 (e_un n_138_9) := u_oldT (s_alen hq_138 (by decide +kernel) rfl : e_Sn 138 9 (o_alen e_fcs 10)) t_138_10 (e_cg_alen e_fcs)
noncomputable def n_138_8 : e_Y := u_ld f_okA f_l0 n_138_9
theorem t_138_8 : e_Sn 138 8 (e_un n_138_8) := u_ldAT f_l0_eq (s_aload (i := .aload_n 0) (len := 1) hq_138 (by decide +kernel) rfl (.inr ⟨0, rfl, rfl, rfl⟩) : e_Sn 138 8 (o_load e_okR 0 9)) t_138_9
noncomputable def n_138_7 : e_Y := u_ld f_okI f_l2 n_138_8
theorem t_138_7 : e_Sn 138 7 (e_un n_138_7) := u_ldIT f_l2_eq (s_iload (i := .iload_n 2) (len := 1) hq_138 (by decide +kernel) rfl (.inr ⟨2, rfl, rfl, rfl⟩) : e_Sn 138 7 (o_load e_okI 2 8)) t_138_8
noncomputable def n_138_6 : e_Y := u_st f_okI f_s2 n_138_7
theorem t_138_6 : e_Sn 138 6 (e_un n_138_6) := u_stIT (fun _ _ _ => f_s2_eq) (s_istore (i := .istore_n 2) (len := 1) hq_138 (by decide +kernel) rfl (.inr ⟨2, rfl, rfl, rfl⟩) : e_Sn 138 6 (o_store e_okI 2 7)) t_138_7
noncomputable def n_138_5 : e_Y := u_push (.inl 2147483648) n_138_6
theorem t_138_5 : e_Sn 138 5 (e_un n_138_5) := u_pushT (s_iconst (n := (0)) hq_138 (by decide +kernel) rfl ⟨by decide +kernel, by decide +kernel⟩ : e_Sn 138 5 (o_push (.inl 2147483648) 6)) t_138_6
noncomputable def n_138_4 : e_Y := u_st f_okA f_s1 n_138_5
theorem t_138_4 : e_Sn 138 4 (e_un n_138_4) := u_stAT (fun _ _ _ => f_s1_eq) (s_astore (i := .astore_n 1) (len := 1) hq_138 (by decide +kernel) rfl (.inr ⟨1, rfl, rfl, rfl⟩) : e_Sn 138 4 (o_store e_okR 1 5)) t_138_5
noncomputable def n_138_2 : e_Y := u_tab (o_newa 0 (e_I 2147483648) 4)
theorem t_138_2 : e_Sn 138 2 (e_un n_138_2) := u_tabT (s_newI (List.mem_of_getElem? (i := 215) (by decide +kernel)) hq_138 (by decide +kernel) rfl : e_Sn 138 2 (o_newa 0 (e_I 2147483648) 4))
noncomputable def n_138_1 : e_Y := u_old (o_alen e_fcs 2) n_138_2
theorem t_138_1 : e_Sn 138 1 (e_un n_138_1) := u_oldT (s_alen hq_138 (by decide +kernel) rfl : e_Sn 138 1 (o_alen e_fcs 2)) t_138_2 (e_cg_alen e_fcs)
noncomputable def n_138_0 : e_Y := u_ld f_okA f_l0 n_138_1
theorem t_138_0 : e_Sn 138 0 (e_un n_138_0) := u_ldAT f_l0_eq (s_aload (i := .aload_n 0) (len := 1) hq_138 (by decide +kernel) rfl (.inr ⟨0, rfl, rfl, rfl⟩) : e_Sn 138 0 (o_load e_okR 0 1)) t_138_1
noncomputable def e_tb_138 : e_X := (e_br 4 (e_lf 0 (e_un n_138_0)) (e_br 7 (e_lf 4 (e_un n_138_4)) (e_lf 7 (e_un n_138_7))))
theorem e_tk_138 : e_Tb 138 e_tb_138 := (e_brT (e_lfT t_138_0) (e_brT (e_lfT t_138_4) (e_lfT t_138_7)))
theorem hq_139 : (e_ml[139]?).map (·.2.1) = some prog_14_method_19_code := rfl
theorem ho_139 : (e_ml[139]?).map (·.1.cls) = some "PlateroomprinterModel" := rfl
theorem hr_139 : (e_ml[139]?).map (·.2.2.2) = some (some (.array .boolean)) := rfl
noncomputable def n_139_26 : e_Y := u_retA
theorem t_139_26 : e_Sn 139 26 (e_un n_139_26) := u_retAT (s_aret (.inr ⟨_, rfl⟩) hq_139 hr_139 (by decide +kernel) : e_Sn 139 26 (o_ret e_okR))
noncomputable def n_139_25 : e_Y := u_ld f_okA f_l1 n_139_26
theorem t_139_25 : e_Sn 139 25 (e_un n_139_25) := u_ldAT f_l1_eq (s_aload (i := .aload_n 1) (len := 1) hq_139 (by decide +kernel) rfl (.inr ⟨1, rfl, rfl, rfl⟩) : e_Sn 139 25 (o_load e_okR 1 26)) t_139_26
noncomputable def n_139_22 : e_Y := (u_at 7)
theorem t_139_22 : e_Sn 139 22 (e_un n_139_22) := u_gotoT (s_goto (off := (-15)) hq_139 (by decide +kernel) rfl : e_Sn 139 22 (o_goto 7)) u_atT
noncomputable def n_139_19 : e_Y := u_inc f_l2 f_s2 1 n_139_22
theorem t_139_19 : e_Sn 139 19 (e_un n_139_19) := u_incT f_l2_eq (fun _ _ _ => f_s2_eq) (s_iinc (zz := (1)) hq_139 (by decide +kernel) rfl (by decide +kernel) ⟨by decide, by decide⟩ : e_Sn 139 19 (o_iinc 2 1 22)) t_139_22
noncomputable def n_139_18 : e_Y := u_old (o_ast 1 e_okZ 19) n_139_19
theorem t_139_18 : e_Sn 139 18 (e_un n_139_18) := u_oldT (s_zast hq_139 (by decide +kernel) rfl : e_Sn 139 18 (o_ast 1 e_okZ 19)) t_139_19 (e_cg_ast 1 e_okZ)
noncomputable def n_139_17 : e_Y := u_ald 1 (u_old (o_aldO 1 18) n_139_18) n_139_18
theorem t_139_17 : e_Sn 139 17 (e_un n_139_17) := u_aldOT (s_zald hq_139 (by decide +kernel) rfl : e_Sn 139 17 (o_aldO 1 18)) t_139_18
noncomputable def n_139_16 : e_Y := u_ld f_okI f_l2 n_139_17
theorem t_139_16 : e_Sn 139 16 (e_un n_139_16) := u_ldIT f_l2_eq (s_iload (i := .iload_n 2) (len := 1) hq_139 (by decide +kernel) rfl (.inr ⟨2, rfl, rfl, rfl⟩) : e_Sn 139 16 (o_load e_okI 2 17)) t_139_17
noncomputable def n_139_15 : e_Y := u_ld f_okA f_l0 n_139_16
theorem t_139_15 : e_Sn 139 15 (e_un n_139_15) := u_ldAT f_l0_eq (s_aload (i := .aload_n 0) (len := 1) hq_139 (by decide +kernel) rfl (.inr ⟨0, rfl, rfl, rfl⟩) : e_Sn 139 15 (o_load e_okR 0 16)) t_139_16
noncomputable def n_139_14 : e_Y := u_ld f_okI f_l2 n_139_15
theorem t_139_14 : e_Sn 139 14 (e_un n_139_14) := u_ldIT f_l2_eq (s_iload (i := .iload_n 2) (len := 1) hq_139 (by decide +kernel) rfl (.inr ⟨2, rfl, rfl, rfl⟩) : e_Sn 139 14 (o_load e_okI 2 15)) t_139_15
noncomputable def n_139_13 : e_Y := u_ld f_okA f_l1 n_139_14
theorem t_139_13 : e_Sn 139 13 (e_un n_139_13) := u_ldAT f_l1_eq (s_aload (i := .aload_n 1) (len := 1) hq_139 (by decide +kernel) rfl (.inr ⟨1, rfl, rfl, rfl⟩) : e_Sn 139 13 (o_load e_okR 1 14)) t_139_14
noncomputable def n_139_10 : e_Y := u_jmp y_ge (u_old2 (o_clt 13 25) 13 n_139_13 n_139_25) n_139_13 n_139_25
theorem t_139_10 : e_Sn 139 10 (e_un n_139_10) := u_cltT rfl (s_cge (off := (15)) hq_139 (by decide +kernel) rfl rfl : e_Sn 139 10 (o_clt 13 25)) t_139_13 t_139_25
noncomputable def n_139_9 : e_Y := u_old (o_alen e_fcs 10) n_139_10
theorem t_139_9 : e_Sn 139 9 (e_un n_139_9) := u_oldT (s_alen hq_139 (by decide +kernel) rfl : e_Sn 139 9 (o_alen e_fcs 10)) t_139_10 (e_cg_alen e_fcs)
noncomputable def n_139_8 : e_Y := u_ld f_okA f_l0 n_139_9
theorem t_139_8 : e_Sn 139 8 (e_un n_139_8) := u_ldAT f_l0_eq (s_aload (i := .aload_n 0) (len := 1) hq_139 (by decide +kernel) rfl (.inr ⟨0, rfl, rfl, rfl⟩) : e_Sn 139 8 (o_load e_okR 0 9)) t_139_9
noncomputable def n_139_7 : e_Y := u_ld f_okI f_l2 n_139_8
theorem t_139_7 : e_Sn 139 7 (e_un n_139_7) := u_ldIT f_l2_eq (s_iload (i := .iload_n 2) (len := 1) hq_139 (by decide +kernel) rfl (.inr ⟨2, rfl, rfl, rfl⟩) : e_Sn 139 7 (o_load e_okI 2 8)) t_139_8
noncomputable def n_139_6 : e_Y := u_st f_okI f_s2 n_139_7
theorem t_139_6 : e_Sn 139 6 (e_un n_139_6) := u_stIT (fun _ _ _ => f_s2_eq) (s_istore (i := .istore_n 2) (len := 1) hq_139 (by decide +kernel) rfl (.inr ⟨2, rfl, rfl, rfl⟩) : e_Sn 139 6 (o_store e_okI 2 7)) t_139_7
noncomputable def n_139_5 : e_Y := u_push (.inl 2147483648) n_139_6
theorem t_139_5 : e_Sn 139 5 (e_un n_139_5) := u_pushT (s_iconst (n := (0)) hq_139 (by decide +kernel) rfl ⟨by decide +kernel, by decide +kernel⟩ : e_Sn 139 5 (o_push (.inl 2147483648) 6)) t_139_6
noncomputable def n_139_4 : e_Y := u_st f_okA f_s1 n_139_5
theorem t_139_4 : e_Sn 139 4 (e_un n_139_4) := u_stAT (fun _ _ _ => f_s1_eq) (s_astore (i := .astore_n 1) (len := 1) hq_139 (by decide +kernel) rfl (.inr ⟨1, rfl, rfl, rfl⟩) : e_Sn 139 4 (o_store e_okR 1 5)) t_139_5
noncomputable def n_139_2 : e_Y := u_tab (o_newa 1 (e_I 2147483648) 4)
theorem t_139_2 : e_Sn 139 2 (e_un n_139_2) := u_tabT (s_newZ (List.mem_of_getElem? (i := 1819) (by decide +kernel)) hq_139 (by decide +kernel) rfl : e_Sn 139 2 (o_newa 1 (e_I 2147483648) 4))
noncomputable def n_139_1 : e_Y := u_old (o_alen e_fcs 2) n_139_2
theorem t_139_1 : e_Sn 139 1 (e_un n_139_1) := u_oldT (s_alen hq_139 (by decide +kernel) rfl : e_Sn 139 1 (o_alen e_fcs 2)) t_139_2 (e_cg_alen e_fcs)
noncomputable def n_139_0 : e_Y := u_ld f_okA f_l0 n_139_1
theorem t_139_0 : e_Sn 139 0 (e_un n_139_0) := u_ldAT f_l0_eq (s_aload (i := .aload_n 0) (len := 1) hq_139 (by decide +kernel) rfl (.inr ⟨0, rfl, rfl, rfl⟩) : e_Sn 139 0 (o_load e_okR 0 1)) t_139_1
noncomputable def e_tb_139 : e_X := (e_br 4 (e_lf 0 (e_un n_139_0)) (e_br 7 (e_lf 4 (e_un n_139_4)) (e_lf 7 (e_un n_139_7))))
theorem e_tk_139 : e_Tb 139 e_tb_139 := (e_brT (e_lfT t_139_0) (e_brT (e_lfT t_139_4) (e_lfT t_139_7)))
theorem hq_141 : (e_ml[141]?).map (·.2.1) = some prog_14_method_41_code := rfl
theorem ho_141 : (e_ml[141]?).map (·.1.cls) = some "PlateroomprinterModel" := rfl
theorem hr_141 : (e_ml[141]?).map (·.2.2.2) = some (some .int) := rfl
noncomputable def n_141_36 : e_Y := u_retI
theorem t_141_36 : e_Sn 141 36 (e_un n_141_36) := u_retIT (s_iret hq_141 hr_141 (by decide +kernel) : e_Sn 141 36 (o_ret e_okI))
noncomputable def n_141_33 : e_Y := u_getf 13 11 (u_old (o_getf (e_f1 13 11) 36) n_141_36) n_141_36
theorem t_141_33 : e_Sn 141 33 (e_un n_141_33) := u_getfT (s_getf (C := er_13) (T := et_13) (N := 13) (ref := "PlateroomprinterModel$Machine") (index := 209) (ci := 13) (k := 11) hq_141 ho_141 ⟨rfl, by decide, ei_13, (List.mem_of_getElem? (i := 1925) (by decide +kernel)), .inl rfl⟩ (by decide +kernel) rfl : e_Sn 141 33 (o_getf (e_f1 13 11) 36)) t_141_36
noncomputable def n_141_30 : e_Y := u_getf 12 1 (u_old (o_getf (e_f1 12 1) 33) n_141_33) n_141_33
theorem t_141_30 : e_Sn 141 30 (e_un n_141_30) := u_getfT (s_getf (C := er_12) (T := et_12) (N := 5) (ref := "PlateroomprinterModel") (index := 10) (ci := 12) (k := 1) hq_141 ho_141 ⟨rfl, by decide, ei_12, (List.mem_of_getElem? (i := 1959) (by decide +kernel)), .inl rfl⟩ (by decide +kernel) rfl : e_Sn 141 30 (o_getf (e_f1 12 1) 33)) t_141_33
noncomputable def n_141_29 : e_Y := u_ld f_okA f_l0 n_141_30
theorem t_141_29 : e_Sn 141 29 (e_un n_141_29) := u_ldAT f_l0_eq (s_aload (i := .aload_n 0) (len := 1) hq_141 (by decide +kernel) rfl (.inr ⟨0, rfl, rfl, rfl⟩) : e_Sn 141 29 (o_load e_okR 0 30)) t_141_30
noncomputable def n_141_26 : e_Y := n_141_36
theorem t_141_26 : e_Sn 141 26 (e_un n_141_26) := u_gotoT (s_goto (off := (10)) hq_141 (by decide +kernel) rfl : e_Sn 141 26 (o_goto 36)) t_141_36
noncomputable def n_141_23 : e_Y := u_getf 13 10 (u_old (o_getf (e_f1 13 10) 26) n_141_26) n_141_26
theorem t_141_23 : e_Sn 141 23 (e_un n_141_23) := u_getfT (s_getf (C := er_13) (T := et_13) (N := 13) (ref := "PlateroomprinterModel$Machine") (index := 206) (ci := 13) (k := 10) hq_141 ho_141 ⟨rfl, by decide, ei_13, (List.mem_of_getElem? (i := 1922) (by decide +kernel)), .inl rfl⟩ (by decide +kernel) rfl : e_Sn 141 23 (o_getf (e_f1 13 10) 26)) t_141_26
noncomputable def n_141_20 : e_Y := u_getf 12 1 (u_old (o_getf (e_f1 12 1) 23) n_141_23) n_141_23
theorem t_141_20 : e_Sn 141 20 (e_un n_141_20) := u_getfT (s_getf (C := er_12) (T := et_12) (N := 5) (ref := "PlateroomprinterModel") (index := 10) (ci := 12) (k := 1) hq_141 ho_141 ⟨rfl, by decide, ei_12, (List.mem_of_getElem? (i := 1959) (by decide +kernel)), .inl rfl⟩ (by decide +kernel) rfl : e_Sn 141 20 (o_getf (e_f1 12 1) 23)) t_141_23
noncomputable def n_141_19 : e_Y := u_ld f_okA f_l0 n_141_20
theorem t_141_19 : e_Sn 141 19 (e_un n_141_19) := u_ldAT f_l0_eq (s_aload (i := .aload_n 0) (len := 1) hq_141 (by decide +kernel) rfl (.inr ⟨0, rfl, rfl, rfl⟩) : e_Sn 141 19 (o_load e_okR 0 20)) t_141_20
noncomputable def n_141_16 : e_Y := u_jmp y_ne (u_old2 (o_ceq 19 29) 19 n_141_19 n_141_29) n_141_19 n_141_29
theorem t_141_16 : e_Sn 141 16 (e_un n_141_16) := u_ceqT rfl (s_cne (off := (13)) hq_141 (by decide +kernel) rfl rfl : e_Sn 141 16 (o_ceq 19 29)) t_141_19 t_141_29
noncomputable def n_141_15 : e_Y := u_push (.inl 2147483649) n_141_16
theorem t_141_15 : e_Sn 141 15 (e_un n_141_15) := u_pushT (s_iconst (n := (1)) hq_141 (by decide +kernel) rfl ⟨by decide +kernel, by decide +kernel⟩ : e_Sn 141 15 (o_push (.inl 2147483649) 16)) t_141_16
noncomputable def n_141_14 : e_Y := u_ld f_okI f_l1 n_141_15
theorem t_141_14 : e_Sn 141 14 (e_un n_141_14) := u_ldIT f_l1_eq (s_iload (i := .iload_n 1) (len := 1) hq_141 (by decide +kernel) rfl (.inr ⟨1, rfl, rfl, rfl⟩) : e_Sn 141 14 (o_load e_okI 1 15)) t_141_15
noncomputable def n_141_11 : e_Y := n_141_36
theorem t_141_11 : e_Sn 141 11 (e_un n_141_11) := u_gotoT (s_goto (off := (25)) hq_141 (by decide +kernel) rfl : e_Sn 141 11 (o_goto 36)) t_141_36
noncomputable def n_141_8 : e_Y := u_getf 13 9 (u_old (o_getf (e_f1 13 9) 11) n_141_11) n_141_11
theorem t_141_8 : e_Sn 141 8 (e_un n_141_8) := u_getfT (s_getf (C := er_13) (T := et_13) (N := 13) (ref := "PlateroomprinterModel$Machine") (index := 203) (ci := 13) (k := 9) hq_141 ho_141 ⟨rfl, by decide, ei_13, (List.mem_of_getElem? (i := 1919) (by decide +kernel)), .inl rfl⟩ (by decide +kernel) rfl : e_Sn 141 8 (o_getf (e_f1 13 9) 11)) t_141_11
noncomputable def n_141_5 : e_Y := u_getf 12 1 (u_old (o_getf (e_f1 12 1) 8) n_141_8) n_141_8
theorem t_141_5 : e_Sn 141 5 (e_un n_141_5) := u_getfT (s_getf (C := er_12) (T := et_12) (N := 5) (ref := "PlateroomprinterModel") (index := 10) (ci := 12) (k := 1) hq_141 ho_141 ⟨rfl, by decide, ei_12, (List.mem_of_getElem? (i := 1959) (by decide +kernel)), .inl rfl⟩ (by decide +kernel) rfl : e_Sn 141 5 (o_getf (e_f1 12 1) 8)) t_141_8
noncomputable def n_141_4 : e_Y := u_ld f_okA f_l0 n_141_5
theorem t_141_4 : e_Sn 141 4 (e_un n_141_4) := u_ldAT f_l0_eq (s_aload (i := .aload_n 0) (len := 1) hq_141 (by decide +kernel) rfl (.inr ⟨0, rfl, rfl, rfl⟩) : e_Sn 141 4 (o_load e_okR 0 5)) t_141_5
noncomputable def n_141_1 : e_Y := u_if y_ne0 (u_old2 (o_ifeq 4 14) 4 n_141_4 n_141_14) n_141_4 n_141_14
theorem t_141_1 : e_Sn 141 1 (e_un n_141_1) := u_ifeqT rfl (s_ifne (off := (13)) hq_141 (by decide +kernel) rfl rfl : e_Sn 141 1 (o_ifeq 4 14)) t_141_4 t_141_14
noncomputable def n_141_0 : e_Y := u_ld f_okI f_l1 n_141_1
theorem t_141_0 : e_Sn 141 0 (e_un n_141_0) := u_ldIT f_l1_eq (s_iload (i := .iload_n 1) (len := 1) hq_141 (by decide +kernel) rfl (.inr ⟨1, rfl, rfl, rfl⟩) : e_Sn 141 0 (o_load e_okI 1 1)) t_141_1
noncomputable def e_tb_141 : e_X := (e_lf 0 (e_un n_141_0))
theorem e_tk_141 : e_Tb 141 e_tb_141 := (e_lfT t_141_0)
theorem hq_140 : (e_ml[140]?).map (·.2.1) = some prog_14_method_42_code := rfl
theorem ho_140 : (e_ml[140]?).map (·.1.cls) = some "PlateroomprinterModel" := rfl
theorem hr_140 : (e_ml[140]?).map (·.2.2.2) = some (some .int) := rfl
noncomputable def n_140_34 : e_Y := u_retI
theorem t_140_34 : e_Sn 140 34 (e_un n_140_34) := u_retIT (s_iret hq_140 hr_140 (by decide +kernel) : e_Sn 140 34 (o_ret e_okI))
noncomputable def n_140_31 : e_Y := u_callV 12 141 2 21 2 n_141_0 n_140_34
theorem t_140_31 : e_Sn 140 31 (e_un n_140_31) := u_callVT rfl (s_callV (ci := 12) (C := er_12) (T := et_12) (N := 5) (index := 212) hq_140 ho_140 hy_141 hp_141 hc_141 hi_141 hd_141 (List.mem_of_getElem? (i := 2941) (by decide +kernel)) hs_141 (List.mem_of_getElem? (i := 123) (by decide +kernel)) rfl (by decide +kernel) rfl : e_Sn 140 31 (o_callV (e_s1 12 141 2) 2 34)) t_141_0 t_140_34
noncomputable def n_140_30 : e_Y := u_ld f_okI f_l1 n_140_31
theorem t_140_30 : e_Sn 140 30 (e_un n_140_30) := u_ldIT f_l1_eq (s_iload (i := .iload_n 1) (len := 1) hq_140 (by decide +kernel) rfl (.inr ⟨1, rfl, rfl, rfl⟩) : e_Sn 140 30 (o_load e_okI 1 31)) t_140_31
noncomputable def n_140_29 : e_Y := u_ld f_okA f_l0 n_140_30
theorem t_140_29 : e_Sn 140 29 (e_un n_140_29) := u_ldAT f_l0_eq (s_aload (i := .aload_n 0) (len := 1) hq_140 (by decide +kernel) rfl (.inr ⟨0, rfl, rfl, rfl⟩) : e_Sn 140 29 (o_load e_okR 0 30)) t_140_30
noncomputable def n_140_26 : e_Y := n_140_34
theorem t_140_26 : e_Sn 140 26 (e_un n_140_26) := u_gotoT (s_goto (off := (8)) hq_140 (by decide +kernel) rfl : e_Sn 140 26 (o_goto 34)) t_140_34
noncomputable def n_140_25 : e_Y := u_push (.inl 2147483648) n_140_26
theorem t_140_25 : e_Sn 140 25 (e_un n_140_25) := u_pushT (s_iconst (n := (0)) hq_140 (by decide +kernel) rfl ⟨by decide +kernel, by decide +kernel⟩ : e_Sn 140 25 (o_push (.inl 2147483648) 26)) t_140_26
noncomputable def n_140_22 : e_Y := u_if y_ne0 (u_old2 (o_ifeq 29 25) 29 n_140_29 n_140_25) n_140_29 n_140_25
theorem t_140_22 : e_Sn 140 22 (e_un n_140_22) := u_ifeqT rfl (s_ifeq (off := (7)) hq_140 (by decide +kernel) rfl rfl : e_Sn 140 22 (o_ifeq 29 25)) t_140_29 t_140_25
noncomputable def n_140_19 : e_Y := u_callV 12 195 3 22 3 n_195_0 n_140_22
theorem t_140_19 : e_Sn 140 19 (e_un n_140_19) := u_callVT rfl (s_callV (ci := 12) (C := er_12) (T := et_12) (N := 5) (index := 148) hq_140 ho_140 hy_195 hp_195 hc_195 hi_195 hd_195 (List.mem_of_getElem? (i := 1992) (by decide +kernel)) hs_195 (List.mem_of_getElem? (i := 73) (by decide +kernel)) rfl (by decide +kernel) rfl : e_Sn 140 19 (o_callV (e_s1 12 195 3) 3 22)) t_195_0 t_140_22
noncomputable def n_140_18 : e_Y := u_push (.inl 2147483649) n_140_19
theorem t_140_18 : e_Sn 140 18 (e_un n_140_18) := u_pushT (s_iconst (n := (1)) hq_140 (by decide +kernel) rfl ⟨by decide +kernel, by decide +kernel⟩ : e_Sn 140 18 (o_push (.inl 2147483649) 19)) t_140_19
noncomputable def n_140_17 : e_Y := u_push (.inl 2147483648) n_140_18
theorem t_140_17 : e_Sn 140 17 (e_un n_140_17) := u_pushT (s_iconst (n := (0)) hq_140 (by decide +kernel) rfl ⟨by decide +kernel, by decide +kernel⟩ : e_Sn 140 17 (o_push (.inl 2147483648) 18)) t_140_18
noncomputable def n_140_14 : e_Y := n_140_18
theorem t_140_14 : e_Sn 140 14 (e_un n_140_14) := u_gotoT (s_goto (off := (4)) hq_140 (by decide +kernel) rfl : e_Sn 140 14 (o_goto 18)) t_140_18
noncomputable def n_140_13 : e_Y := u_push (.inl 2147483649) n_140_14
theorem t_140_13 : e_Sn 140 13 (e_un n_140_13) := u_pushT (s_iconst (n := (1)) hq_140 (by decide +kernel) rfl ⟨by decide +kernel, by decide +kernel⟩ : e_Sn 140 13 (o_push (.inl 2147483649) 14)) t_140_14
noncomputable def n_140_10 : e_Y := u_if y_ne0 (u_old2 (o_ifeq 13 17) 13 n_140_13 n_140_17) n_140_13 n_140_17
theorem t_140_10 : e_Sn 140 10 (e_un n_140_10) := u_ifeqT rfl (s_ifne (off := (7)) hq_140 (by decide +kernel) rfl rfl : e_Sn 140 10 (o_ifeq 13 17)) t_140_13 t_140_17
noncomputable def n_140_7 : e_Y := u_callS 162 6 25 3 n_162_0 n_140_10
theorem t_140_7 : e_Sn 140 7 (e_un n_140_7) := u_callST rfl (s_callS (index := 136) hq_140 ho_140 hy_162 hp_162 hc_162 hi_162 hd_162 (List.mem_of_getElem? (i := 1987) (by decide +kernel)) hs_162 (by decide +kernel) rfl : e_Sn 140 7 (o_callS 162 6 3 10)) t_162_0 t_140_10
noncomputable def n_140_4 : e_Y := u_push (e_L 9223372036854775810) n_140_7
theorem t_140_4 : e_Sn 140 4 (e_un n_140_4) := u_pushT (s_ldc2 (index := 69) (v := (2)) hq_140 ho_140 (List.mem_of_getElem? (i := 2377) (by decide +kernel)) (by decide +kernel) rfl ⟨by decide +kernel, by decide +kernel⟩ : e_Sn 140 4 (o_push (e_L 9223372036854775810) 7)) t_140_7
noncomputable def n_140_3 : e_Y := u_push (e_L 9223372036854775808) n_140_4
theorem t_140_3 : e_Sn 140 3 (e_un n_140_3) := u_pushT (s_lconst (n := 0) hq_140 (by decide +kernel) rfl ⟨by decide +kernel, by decide +kernel⟩ : e_Sn 140 3 (o_push (e_L 9223372036854775808) 4)) t_140_4
noncomputable def n_140_2 : e_Y := u_old (o_i2l 3) n_140_3
theorem t_140_2 : e_Sn 140 2 (e_un n_140_2) := u_oldT (s_i2l hq_140 (by decide +kernel) rfl : e_Sn 140 2 (o_i2l 3)) t_140_3 e_congr_i2l
noncomputable def n_140_1 : e_Y := u_ld f_okI f_l1 n_140_2
theorem t_140_1 : e_Sn 140 1 (e_un n_140_1) := u_ldIT f_l1_eq (s_iload (i := .iload_n 1) (len := 1) hq_140 (by decide +kernel) rfl (.inr ⟨1, rfl, rfl, rfl⟩) : e_Sn 140 1 (o_load e_okI 1 2)) t_140_2
noncomputable def n_140_0 : e_Y := u_ld f_okA f_l0 n_140_1
theorem t_140_0 : e_Sn 140 0 (e_un n_140_0) := u_ldAT f_l0_eq (s_aload (i := .aload_n 0) (len := 1) hq_140 (by decide +kernel) rfl (.inr ⟨0, rfl, rfl, rfl⟩) : e_Sn 140 0 (o_load e_okR 0 1)) t_140_1
noncomputable def e_tb_140 : e_X := (e_lf 0 (e_un n_140_0))
theorem e_tk_140 : e_Tb 140 e_tb_140 := (e_lfT t_140_0)
theorem hq_143 : (e_ml[143]?).map (·.2.1) = some prog_14_method_73_code := rfl
theorem ho_143 : (e_ml[143]?).map (·.1.cls) = some "PlateroomprinterModel" := rfl
theorem hr_143 : (e_ml[143]?).map (·.2.2.2) = some (some .int) := rfl
noncomputable def n_143_35 : e_Y := u_retI
theorem t_143_35 : e_Sn 143 35 (e_un n_143_35) := u_retIT (s_iret hq_143 hr_143 (by decide +kernel) : e_Sn 143 35 (o_ret e_okI))
noncomputable def n_143_34 : e_Y := u_ld f_okI f_l2 n_143_35
theorem t_143_34 : e_Sn 143 34 (e_un n_143_34) := u_ldIT f_l2_eq (s_iload (i := .iload_n 2) (len := 1) hq_143 (by decide +kernel) rfl (.inr ⟨2, rfl, rfl, rfl⟩) : e_Sn 143 34 (o_load e_okI 2 35)) t_143_35
noncomputable def n_143_31 : e_Y := (u_at 4)
theorem t_143_31 : e_Sn 143 31 (e_un n_143_31) := u_gotoT (s_goto (off := (-27)) hq_143 (by decide +kernel) rfl : e_Sn 143 31 (o_goto 4)) u_atT
noncomputable def n_143_28 : e_Y := u_inc f_l3 f_s3 1 n_143_31
theorem t_143_28 : e_Sn 143 28 (e_un n_143_28) := u_incT f_l3_eq (fun _ _ _ => f_s3_eq) (s_iinc (zz := (1)) hq_143 (by decide +kernel) rfl (by decide +kernel) ⟨by decide, by decide⟩ : e_Sn 143 28 (o_iinc 3 1 31)) t_143_31
noncomputable def n_143_27 : e_Y := u_st f_okI f_s2 n_143_28
theorem t_143_27 : e_Sn 143 27 (e_un n_143_27) := u_stIT (fun _ _ _ => f_s2_eq) (s_istore (i := .istore_n 2) (len := 1) hq_143 (by decide +kernel) rfl (.inr ⟨2, rfl, rfl, rfl⟩) : e_Sn 143 27 (o_store e_okI 2 28)) t_143_28
noncomputable def n_143_26 : e_Y := u_bin a_iadd (u_old (o_iadd 27) n_143_27) n_143_27
theorem t_143_26 : e_Sn 143 26 (e_un n_143_26) := u_iaddT (s_iadd hq_143 (by decide +kernel) rfl : e_Sn 143 26 (o_iadd 27)) t_143_27
noncomputable def n_143_23 : e_Y := u_callS 180 1 20 1 n_180_0 n_143_26
theorem t_143_23 : e_Sn 143 23 (e_un n_143_23) := u_callST rfl (s_callS (index := 107) hq_143 ho_143 hy_180 hp_180 hc_180 hi_180 hd_180 (List.mem_of_getElem? (i := 2482) (by decide +kernel)) hs_180 (by decide +kernel) rfl : e_Sn 143 23 (o_callS 180 1 1 26)) t_180_0 t_143_26
noncomputable def n_143_22 : e_Y := u_ald 1 (u_old (o_aldO 1 23) n_143_23) n_143_23
theorem t_143_22 : e_Sn 143 22 (e_un n_143_22) := u_aldOT (s_zald hq_143 (by decide +kernel) rfl : e_Sn 143 22 (o_aldO 1 23)) t_143_23
noncomputable def n_143_21 : e_Y := u_bin a_iadd (u_old (o_iadd 22) n_143_22) n_143_22
theorem t_143_21 : e_Sn 143 21 (e_un n_143_21) := u_iaddT (s_iadd hq_143 (by decide +kernel) rfl : e_Sn 143 21 (o_iadd 22)) t_143_22
noncomputable def n_143_20 : e_Y := u_ld f_okI f_l3 n_143_21
theorem t_143_20 : e_Sn 143 20 (e_un n_143_20) := u_ldIT f_l3_eq (s_iload (i := .iload_n 3) (len := 1) hq_143 (by decide +kernel) rfl (.inr ⟨3, rfl, rfl, rfl⟩) : e_Sn 143 20 (o_load e_okI 3 21)) t_143_21
noncomputable def n_143_19 : e_Y := u_bin a_imul (u_old (o_imul 20) n_143_20) n_143_20
theorem t_143_19 : e_Sn 143 19 (e_un n_143_19) := u_imulT (s_imul hq_143 (by decide +kernel) rfl : e_Sn 143 19 (o_imul 20)) t_143_20
noncomputable def n_143_17 : e_Y := u_push (.inl 2147483680) n_143_19
theorem t_143_17 : e_Sn 143 17 (e_un n_143_17) := u_pushT (s_bipush (n := (32)) hq_143 (by decide +kernel) rfl ⟨by decide +kernel, by decide +kernel⟩ : e_Sn 143 17 (o_push (.inl 2147483680) 19)) t_143_19
noncomputable def n_143_16 : e_Y := u_bin a_imul (u_old (o_imul 17) n_143_17) n_143_17
theorem t_143_16 : e_Sn 143 16 (e_un n_143_16) := u_imulT (s_imul hq_143 (by decide +kernel) rfl : e_Sn 143 16 (o_imul 17)) t_143_17
noncomputable def n_143_14 : e_Y := u_push (.inl 2147483680) n_143_16
theorem t_143_14 : e_Sn 143 14 (e_un n_143_14) := u_pushT (s_bipush (n := (32)) hq_143 (by decide +kernel) rfl ⟨by decide +kernel, by decide +kernel⟩ : e_Sn 143 14 (o_push (.inl 2147483680) 16)) t_143_16
noncomputable def n_143_13 : e_Y := u_ld f_okI f_l1 n_143_14
theorem t_143_13 : e_Sn 143 13 (e_un n_143_13) := u_ldIT f_l1_eq (s_iload (i := .iload_n 1) (len := 1) hq_143 (by decide +kernel) rfl (.inr ⟨1, rfl, rfl, rfl⟩) : e_Sn 143 13 (o_load e_okI 1 14)) t_143_14
noncomputable def n_143_12 : e_Y := u_ld f_okA f_l0 n_143_13
theorem t_143_12 : e_Sn 143 12 (e_un n_143_12) := u_ldAT f_l0_eq (s_aload (i := .aload_n 0) (len := 1) hq_143 (by decide +kernel) rfl (.inr ⟨0, rfl, rfl, rfl⟩) : e_Sn 143 12 (o_load e_okR 0 13)) t_143_13
noncomputable def n_143_11 : e_Y := u_ld f_okI f_l2 n_143_12
theorem t_143_11 : e_Sn 143 11 (e_un n_143_11) := u_ldIT f_l2_eq (s_iload (i := .iload_n 2) (len := 1) hq_143 (by decide +kernel) rfl (.inr ⟨2, rfl, rfl, rfl⟩) : e_Sn 143 11 (o_load e_okI 2 12)) t_143_12
noncomputable def n_143_8 : e_Y := u_jmp y_ge (u_old2 (o_clt 11 34) 11 n_143_11 n_143_34) n_143_11 n_143_34
theorem t_143_8 : e_Sn 143 8 (e_un n_143_8) := u_cltT rfl (s_cge (off := (26)) hq_143 (by decide +kernel) rfl rfl : e_Sn 143 8 (o_clt 11 34)) t_143_11 t_143_34
noncomputable def n_143_5 : e_Y := u_push (.inl 2147484672) n_143_8
theorem t_143_5 : e_Sn 143 5 (e_un n_143_5) := u_pushT (s_sipush (n := (1024)) hq_143 (by decide +kernel) rfl ⟨by decide +kernel, by decide +kernel⟩ : e_Sn 143 5 (o_push (.inl 2147484672) 8)) t_143_8
noncomputable def n_143_4 : e_Y := u_ld f_okI f_l3 n_143_5
theorem t_143_4 : e_Sn 143 4 (e_un n_143_4) := u_ldIT f_l3_eq (s_iload (i := .iload_n 3) (len := 1) hq_143 (by decide +kernel) rfl (.inr ⟨3, rfl, rfl, rfl⟩) : e_Sn 143 4 (o_load e_okI 3 5)) t_143_5
noncomputable def n_143_3 : e_Y := u_st f_okI f_s3 n_143_4
theorem t_143_3 : e_Sn 143 3 (e_un n_143_3) := u_stIT (fun _ _ _ => f_s3_eq) (s_istore (i := .istore_n 3) (len := 1) hq_143 (by decide +kernel) rfl (.inr ⟨3, rfl, rfl, rfl⟩) : e_Sn 143 3 (o_store e_okI 3 4)) t_143_4
noncomputable def n_143_2 : e_Y := u_push (.inl 2147483648) n_143_3
theorem t_143_2 : e_Sn 143 2 (e_un n_143_2) := u_pushT (s_iconst (n := (0)) hq_143 (by decide +kernel) rfl ⟨by decide +kernel, by decide +kernel⟩ : e_Sn 143 2 (o_push (.inl 2147483648) 3)) t_143_3
noncomputable def n_143_1 : e_Y := u_st f_okI f_s2 n_143_2
theorem t_143_1 : e_Sn 143 1 (e_un n_143_1) := u_stIT (fun _ _ _ => f_s2_eq) (s_istore (i := .istore_n 2) (len := 1) hq_143 (by decide +kernel) rfl (.inr ⟨2, rfl, rfl, rfl⟩) : e_Sn 143 1 (o_store e_okI 2 2)) t_143_2
noncomputable def n_143_0 : e_Y := u_push (.inl 2147483648) n_143_1
theorem t_143_0 : e_Sn 143 0 (e_un n_143_0) := u_pushT (s_iconst (n := (0)) hq_143 (by decide +kernel) rfl ⟨by decide +kernel, by decide +kernel⟩ : e_Sn 143 0 (o_push (.inl 2147483648) 1)) t_143_1
noncomputable def e_tb_143 : e_X := (e_br 4 (e_lf 0 (e_un n_143_0)) (e_lf 4 (e_un n_143_4)))
theorem e_tk_143 : e_Tb 143 e_tb_143 := (e_brT (e_lfT t_143_0) (e_lfT t_143_4))
theorem hq_164 : (e_ml[164]?).map (·.2.1) = some prog_14_method_71_code := rfl
theorem ho_164 : (e_ml[164]?).map (·.1.cls) = some "PlateroomprinterModel" := rfl
theorem hr_164 : (e_ml[164]?).map (·.2.2.2) = some (some .boolean) := rfl
noncomputable def n_164_17 : e_Y := u_tab (o_ret e_okZ)
theorem t_164_17 : e_Sn 164 17 (e_un n_164_17) := u_tabT (s_zret hq_164 hr_164 (by decide +kernel) : e_Sn 164 17 (o_ret e_okZ))
noncomputable def n_164_16 : e_Y := u_push (.inl 2147483648) n_164_17
theorem t_164_16 : e_Sn 164 16 (e_un n_164_16) := u_pushT (s_iconst (n := (0)) hq_164 (by decide +kernel) rfl ⟨by decide +kernel, by decide +kernel⟩ : e_Sn 164 16 (o_push (.inl 2147483648) 17)) t_164_17
noncomputable def n_164_13 : e_Y := n_164_17
theorem t_164_13 : e_Sn 164 13 (e_un n_164_13) := u_gotoT (s_goto (off := (4)) hq_164 (by decide +kernel) rfl : e_Sn 164 13 (o_goto 17)) t_164_17
noncomputable def n_164_12 : e_Y := u_push (.inl 2147483649) n_164_13
theorem t_164_12 : e_Sn 164 12 (e_un n_164_12) := u_pushT (s_iconst (n := (1)) hq_164 (by decide +kernel) rfl ⟨by decide +kernel, by decide +kernel⟩ : e_Sn 164 12 (o_push (.inl 2147483649) 13)) t_164_13
noncomputable def n_164_9 : e_Y := u_if y_ne0 (u_old2 (o_ifeq 12 16) 12 n_164_12 n_164_16) n_164_12 n_164_16
theorem t_164_9 : e_Sn 164 9 (e_un n_164_9) := u_ifeqT rfl (s_ifne (off := (7)) hq_164 (by decide +kernel) rfl rfl : e_Sn 164 9 (o_ifeq 12 16)) t_164_12 t_164_16
noncomputable def n_164_6 : e_Y := u_callS 162 6 25 3 n_162_0 n_164_9
theorem t_164_6 : e_Sn 164 6 (e_un n_164_6) := u_callST rfl (s_callS (index := 136) hq_164 ho_164 hy_162 hp_162 hc_162 hi_162 hd_162 (List.mem_of_getElem? (i := 1987) (by decide +kernel)) hs_162 (by decide +kernel) rfl : e_Sn 164 6 (o_callS 162 6 3 9)) t_162_0 t_164_9
noncomputable def n_164_3 : e_Y := u_push (e_L 9223372036854775811) n_164_6
theorem t_164_3 : e_Sn 164 3 (e_un n_164_3) := u_pushT (s_ldc2 (index := 331) (v := (3)) hq_164 ho_164 (List.mem_of_getElem? (i := 3070) (by decide +kernel)) (by decide +kernel) rfl ⟨by decide +kernel, by decide +kernel⟩ : e_Sn 164 3 (o_push (e_L 9223372036854775811) 6)) t_164_6
noncomputable def n_164_2 : e_Y := u_push (e_L 9223372036854775808) n_164_3
theorem t_164_2 : e_Sn 164 2 (e_un n_164_2) := u_pushT (s_lconst (n := 0) hq_164 (by decide +kernel) rfl ⟨by decide +kernel, by decide +kernel⟩ : e_Sn 164 2 (o_push (e_L 9223372036854775808) 3)) t_164_3
noncomputable def n_164_1 : e_Y := u_old (o_i2l 2) n_164_2
theorem t_164_1 : e_Sn 164 1 (e_un n_164_1) := u_oldT (s_i2l hq_164 (by decide +kernel) rfl : e_Sn 164 1 (o_i2l 2)) t_164_2 e_congr_i2l
noncomputable def n_164_0 : e_Y := u_ld f_okI f_l0 n_164_1
theorem t_164_0 : e_Sn 164 0 (e_un n_164_0) := u_ldIT f_l0_eq (s_iload (i := .iload_n 0) (len := 1) hq_164 (by decide +kernel) rfl (.inr ⟨0, rfl, rfl, rfl⟩) : e_Sn 164 0 (o_load e_okI 0 1)) t_164_1
noncomputable def e_tb_164 : e_X := (e_lf 0 (e_un n_164_0))
theorem e_tk_164 : e_Tb 164 e_tb_164 := (e_lfT t_164_0)
theorem hq_142 : (e_ml[142]?).map (·.2.1) = some prog_14_method_74_code := rfl
theorem ho_142 : (e_ml[142]?).map (·.1.cls) = some "PlateroomprinterModel" := rfl
theorem hr_142 : (e_ml[142]?).map (·.2.2.2) = some (some .int) := rfl
noncomputable def n_142_27 : e_Y := u_retI
theorem t_142_27 : e_Sn 142 27 (e_un n_142_27) := u_retIT (s_iret hq_142 hr_142 (by decide +kernel) : e_Sn 142 27 (o_ret e_okI))
noncomputable def n_142_24 : e_Y := u_callS 143 4 23 2 n_143_0 n_142_27
theorem t_142_24 : e_Sn 142 24 (e_un n_142_24) := u_callST rfl (s_callS (index := 339) hq_142 ho_142 hy_143 hp_143 hc_143 hi_143 hd_143 (List.mem_of_getElem? (i := 3079) (by decide +kernel)) hs_143 (by decide +kernel) rfl : e_Sn 142 24 (o_callS 143 4 2 27)) t_143_0 t_142_27
noncomputable def n_142_23 : e_Y := u_ld f_okI f_l1 n_142_24
theorem t_142_23 : e_Sn 142 23 (e_un n_142_23) := u_ldIT f_l1_eq (s_iload (i := .iload_n 1) (len := 1) hq_142 (by decide +kernel) rfl (.inr ⟨1, rfl, rfl, rfl⟩) : e_Sn 142 23 (o_load e_okI 1 24)) t_142_24
noncomputable def n_142_20 : e_Y := u_getf 13 6 (u_old (o_getf (e_f1 13 6) 23) n_142_23) n_142_23
theorem t_142_20 : e_Sn 142 20 (e_un n_142_20) := u_getfT (s_getf (C := er_13) (T := et_13) (N := 13) (ref := "PlateroomprinterModel$Machine") (index := 324) (ci := 13) (k := 6) hq_142 ho_142 ⟨rfl, by decide, ei_13, (List.mem_of_getElem? (i := 1910) (by decide +kernel)), .inl rfl⟩ (by decide +kernel) rfl : e_Sn 142 20 (o_getf (e_f1 13 6) 23)) t_142_23
noncomputable def n_142_17 : e_Y := u_getf 12 1 (u_old (o_getf (e_f1 12 1) 20) n_142_20) n_142_20
theorem t_142_17 : e_Sn 142 17 (e_un n_142_17) := u_getfT (s_getf (C := er_12) (T := et_12) (N := 5) (ref := "PlateroomprinterModel") (index := 10) (ci := 12) (k := 1) hq_142 ho_142 ⟨rfl, by decide, ei_12, (List.mem_of_getElem? (i := 1959) (by decide +kernel)), .inl rfl⟩ (by decide +kernel) rfl : e_Sn 142 17 (o_getf (e_f1 12 1) 20)) t_142_20
noncomputable def n_142_16 : e_Y := u_ld f_okA f_l0 n_142_17
theorem t_142_16 : e_Sn 142 16 (e_un n_142_16) := u_ldAT f_l0_eq (s_aload (i := .aload_n 0) (len := 1) hq_142 (by decide +kernel) rfl (.inr ⟨0, rfl, rfl, rfl⟩) : e_Sn 142 16 (o_load e_okR 0 17)) t_142_17
noncomputable def n_142_13 : e_Y := n_142_27
theorem t_142_13 : e_Sn 142 13 (e_un n_142_13) := u_gotoT (s_goto (off := (14)) hq_142 (by decide +kernel) rfl : e_Sn 142 13 (o_goto 27)) t_142_27
noncomputable def n_142_12 : e_Y := u_push (.inl 2147483648) n_142_13
theorem t_142_12 : e_Sn 142 12 (e_un n_142_12) := u_pushT (s_iconst (n := (0)) hq_142 (by decide +kernel) rfl ⟨by decide +kernel, by decide +kernel⟩ : e_Sn 142 12 (o_push (.inl 2147483648) 13)) t_142_13
noncomputable def n_142_9 : e_Y := u_if y_ne0 (u_old2 (o_ifeq 16 12) 16 n_142_16 n_142_12) n_142_16 n_142_12
theorem t_142_9 : e_Sn 142 9 (e_un n_142_9) := u_ifeqT rfl (s_ifeq (off := (7)) hq_142 (by decide +kernel) rfl rfl : e_Sn 142 9 (o_ifeq 16 12)) t_142_16 t_142_12
noncomputable def n_142_6 : e_Y := u_callV 12 195 3 22 3 n_195_0 n_142_9
theorem t_142_6 : e_Sn 142 6 (e_un n_142_6) := u_callVT rfl (s_callV (ci := 12) (C := er_12) (T := et_12) (N := 5) (index := 148) hq_142 ho_142 hy_195 hp_195 hc_195 hi_195 hd_195 (List.mem_of_getElem? (i := 1992) (by decide +kernel)) hs_195 (List.mem_of_getElem? (i := 73) (by decide +kernel)) rfl (by decide +kernel) rfl : e_Sn 142 6 (o_callV (e_s1 12 195 3) 3 9)) t_195_0 t_142_9
noncomputable def n_142_5 : e_Y := u_push (.inl 2147483649) n_142_6
theorem t_142_5 : e_Sn 142 5 (e_un n_142_5) := u_pushT (s_iconst (n := (1)) hq_142 (by decide +kernel) rfl ⟨by decide +kernel, by decide +kernel⟩ : e_Sn 142 5 (o_push (.inl 2147483649) 6)) t_142_6
noncomputable def n_142_2 : e_Y := u_callS 164 1 20 1 n_164_0 n_142_5
theorem t_142_2 : e_Sn 142 2 (e_un n_142_2) := u_callST rfl (s_callS (index := 333) hq_142 ho_142 hy_164 hp_164 hc_164 hi_164 hd_164 (List.mem_of_getElem? (i := 3067) (by decide +kernel)) hs_164 (by decide +kernel) rfl : e_Sn 142 2 (o_callS 164 1 1 5)) t_164_0 t_142_5
noncomputable def n_142_1 : e_Y := u_ld f_okI f_l1 n_142_2
theorem t_142_1 : e_Sn 142 1 (e_un n_142_1) := u_ldIT f_l1_eq (s_iload (i := .iload_n 1) (len := 1) hq_142 (by decide +kernel) rfl (.inr ⟨1, rfl, rfl, rfl⟩) : e_Sn 142 1 (o_load e_okI 1 2)) t_142_2
noncomputable def n_142_0 : e_Y := u_ld f_okA f_l0 n_142_1
theorem t_142_0 : e_Sn 142 0 (e_un n_142_0) := u_ldAT f_l0_eq (s_aload (i := .aload_n 0) (len := 1) hq_142 (by decide +kernel) rfl (.inr ⟨0, rfl, rfl, rfl⟩) : e_Sn 142 0 (o_load e_okR 0 1)) t_142_1
noncomputable def e_tb_142 : e_X := (e_lf 0 (e_un n_142_0))
theorem e_tk_142 : e_Tb 142 e_tb_142 := (e_lfT t_142_0)
theorem hq_179 : (e_ml[179]?).map (·.2.1) = some prog_14_method_39_code := rfl
theorem ho_179 : (e_ml[179]?).map (·.1.cls) = some "PlateroomprinterModel" := rfl
theorem hr_179 : (e_ml[179]?).map (·.2.2.2) = some (some .int) := rfl
noncomputable def n_179_31 : e_Y := u_retI
theorem t_179_31 : e_Sn 179 31 (e_un n_179_31) := u_retIT (s_iret hq_179 hr_179 (by decide +kernel) : e_Sn 179 31 (o_ret e_okI))
noncomputable def n_179_15 : e_Y := n_179_31
theorem t_179_15 : e_Sn 179 15 (e_un n_179_15) := u_gotoT (s_goto (off := (16)) hq_179 (by decide +kernel) rfl : e_Sn 179 15 (o_goto 31)) t_179_31
noncomputable def n_179_14 : e_Y := u_bin a_isub (u_old (o_isub 15) n_179_15) n_179_15
theorem t_179_14 : e_Sn 179 14 (e_un n_179_14) := u_isubT (s_isub hq_179 (by decide +kernel) rfl : e_Sn 179 14 (o_isub 15)) t_179_15
noncomputable def n_179_13 : e_Y := u_push (.inl 2147483649) n_179_14
theorem t_179_13 : e_Sn 179 13 (e_un n_179_13) := u_pushT (s_iconst (n := (1)) hq_179 (by decide +kernel) rfl ⟨by decide +kernel, by decide +kernel⟩ : e_Sn 179 13 (o_push (.inl 2147483649) 14)) t_179_14
noncomputable def n_179_12 : e_Y := u_ld f_okI f_l2 n_179_13
theorem t_179_12 : e_Sn 179 12 (e_un n_179_12) := u_ldIT f_l2_eq (s_iload (i := .iload_n 2) (len := 1) hq_179 (by decide +kernel) rfl (.inr ⟨2, rfl, rfl, rfl⟩) : e_Sn 179 12 (o_load e_okI 2 13)) t_179_13
noncomputable def n_179_9 : e_Y := u_tab (o_null 12 18)
theorem t_179_9 : e_Sn 179 9 (e_un n_179_9) := u_tabT (s_ifnonnull (off := (9)) hq_179 (by decide +kernel) rfl rfl : e_Sn 179 9 (o_null 12 18))
noncomputable def n_179_8 : e_Y := u_ald 6 (u_old (o_aldO 6 9) n_179_9) n_179_9
theorem t_179_8 : e_Sn 179 8 (e_un n_179_8) := u_aldOT (s_aald (tc := 3) rfl hq_179 (by decide +kernel) rfl : e_Sn 179 8 (o_aldO 6 9)) t_179_9
noncomputable def n_179_7 : e_Y := u_ld f_okI f_l1 n_179_8
theorem t_179_7 : e_Sn 179 7 (e_un n_179_7) := u_ldIT f_l1_eq (s_iload (i := .iload_n 1) (len := 1) hq_179 (by decide +kernel) rfl (.inr ⟨1, rfl, rfl, rfl⟩) : e_Sn 179 7 (o_load e_okI 1 8)) t_179_8
noncomputable def n_179_4 : e_Y := u_getf 13 1 (u_old (o_getf (e_f1 13 1) 7) n_179_7) n_179_7
theorem t_179_4 : e_Sn 179 4 (e_un n_179_4) := u_getfT (s_getf (C := er_13) (T := et_13) (N := 13) (ref := "PlateroomprinterModel$Machine") (index := 195) (ci := 13) (k := 1) hq_179 ho_179 ⟨rfl, by decide, ei_13, (List.mem_of_getElem? (i := 1895) (by decide +kernel)), .inl rfl⟩ (by decide +kernel) rfl : e_Sn 179 4 (o_getf (e_f1 13 1) 7)) t_179_7
noncomputable def n_179_1 : e_Y := u_getf 12 1 (u_old (o_getf (e_f1 12 1) 4) n_179_4) n_179_4
theorem t_179_1 : e_Sn 179 1 (e_un n_179_1) := u_getfT (s_getf (C := er_12) (T := et_12) (N := 5) (ref := "PlateroomprinterModel") (index := 10) (ci := 12) (k := 1) hq_179 ho_179 ⟨rfl, by decide, ei_12, (List.mem_of_getElem? (i := 1959) (by decide +kernel)), .inl rfl⟩ (by decide +kernel) rfl : e_Sn 179 1 (o_getf (e_f1 12 1) 4)) t_179_4
noncomputable def n_179_0 : e_Y := u_ld f_okA f_l0 n_179_1
theorem t_179_0 : e_Sn 179 0 (e_un n_179_0) := u_ldAT f_l0_eq (s_aload (i := .aload_n 0) (len := 1) hq_179 (by decide +kernel) rfl (.inr ⟨0, rfl, rfl, rfl⟩) : e_Sn 179 0 (o_load e_okR 0 1)) t_179_1
noncomputable def e_tb_179 : e_X := (e_br 12 (e_lf 0 (e_un n_179_0)) (e_lf 12 (e_un n_179_12)))
theorem e_tk_179 : e_Tb 179 e_tb_179 := (e_brT (e_lfT t_179_0) (e_lfT t_179_12))
theorem hq_182 : (e_ml[182]?).map (·.2.1) = some prog_14_method_79_code := rfl
theorem ho_182 : (e_ml[182]?).map (·.1.cls) = some "PlateroomprinterModel" := rfl
theorem hr_182 : (e_ml[182]?).map (·.2.2.2) = some (some .int) := rfl
noncomputable def n_182_23 : e_Y := u_retI
theorem t_182_23 : e_Sn 182 23 (e_un n_182_23) := u_retIT (s_iret hq_182 hr_182 (by decide +kernel) : e_Sn 182 23 (o_ret e_okI))
noncomputable def n_182_22 : e_Y := u_push (.inl 2147483648) n_182_23
theorem t_182_22 : e_Sn 182 22 (e_un n_182_22) := u_pushT (s_iconst (n := (0)) hq_182 (by decide +kernel) rfl ⟨by decide +kernel, by decide +kernel⟩ : e_Sn 182 22 (o_push (.inl 2147483648) 23)) t_182_23
noncomputable def n_182_19 : e_Y := u_tab (o_null 22 24)
theorem t_182_19 : e_Sn 182 19 (e_un n_182_19) := u_tabT (s_ifnonnull (off := (5)) hq_182 (by decide +kernel) rfl rfl : e_Sn 182 19 (o_null 22 24))
noncomputable def n_182_16 : e_Y := u_getf 13 7 (u_old (o_getf (e_f1 13 7) 19) n_182_19) n_182_19
theorem t_182_16 : e_Sn 182 16 (e_un n_182_16) := u_getfT (s_getf (C := er_13) (T := et_13) (N := 13) (ref := "PlateroomprinterModel$Machine") (index := 364) (ci := 13) (k := 7) hq_182 ho_182 ⟨rfl, by decide, ei_13, (List.mem_of_getElem? (i := 1913) (by decide +kernel)), .inl rfl⟩ (by decide +kernel) rfl : e_Sn 182 16 (o_getf (e_f1 13 7) 19)) t_182_19
noncomputable def n_182_13 : e_Y := u_getf 12 1 (u_old (o_getf (e_f1 12 1) 16) n_182_16) n_182_16
theorem t_182_13 : e_Sn 182 13 (e_un n_182_13) := u_getfT (s_getf (C := er_12) (T := et_12) (N := 5) (ref := "PlateroomprinterModel") (index := 10) (ci := 12) (k := 1) hq_182 ho_182 ⟨rfl, by decide, ei_12, (List.mem_of_getElem? (i := 1959) (by decide +kernel)), .inl rfl⟩ (by decide +kernel) rfl : e_Sn 182 13 (o_getf (e_f1 12 1) 16)) t_182_16
noncomputable def n_182_12 : e_Y := u_ld f_okA f_l0 n_182_13
theorem t_182_12 : e_Sn 182 12 (e_un n_182_12) := u_ldAT f_l0_eq (s_aload (i := .aload_n 0) (len := 1) hq_182 (by decide +kernel) rfl (.inr ⟨0, rfl, rfl, rfl⟩) : e_Sn 182 12 (o_load e_okR 0 13)) t_182_13
noncomputable def n_182_11 : e_Y := u_retI
theorem t_182_11 : e_Sn 182 11 (e_un n_182_11) := u_retIT (s_iret hq_182 hr_182 (by decide +kernel) : e_Sn 182 11 (o_ret e_okI))
noncomputable def n_182_8 : e_Y := u_getf 13 8 (u_old (o_getf (e_f1 13 8) 11) n_182_11) n_182_11
theorem t_182_8 : e_Sn 182 8 (e_un n_182_8) := u_getfT (s_getf (C := er_13) (T := et_13) (N := 13) (ref := "PlateroomprinterModel$Machine") (index := 181) (ci := 13) (k := 8) hq_182 ho_182 ⟨rfl, by decide, ei_13, (List.mem_of_getElem? (i := 1915) (by decide +kernel)), .inl rfl⟩ (by decide +kernel) rfl : e_Sn 182 8 (o_getf (e_f1 13 8) 11)) t_182_11
noncomputable def n_182_5 : e_Y := u_getf 12 1 (u_old (o_getf (e_f1 12 1) 8) n_182_8) n_182_8
theorem t_182_5 : e_Sn 182 5 (e_un n_182_5) := u_getfT (s_getf (C := er_12) (T := et_12) (N := 5) (ref := "PlateroomprinterModel") (index := 10) (ci := 12) (k := 1) hq_182 ho_182 ⟨rfl, by decide, ei_12, (List.mem_of_getElem? (i := 1959) (by decide +kernel)), .inl rfl⟩ (by decide +kernel) rfl : e_Sn 182 5 (o_getf (e_f1 12 1) 8)) t_182_8
noncomputable def n_182_4 : e_Y := u_ld f_okA f_l0 n_182_5
theorem t_182_4 : e_Sn 182 4 (e_un n_182_4) := u_ldAT f_l0_eq (s_aload (i := .aload_n 0) (len := 1) hq_182 (by decide +kernel) rfl (.inr ⟨0, rfl, rfl, rfl⟩) : e_Sn 182 4 (o_load e_okR 0 5)) t_182_5
noncomputable def n_182_1 : e_Y := u_if y_ne0 (u_old2 (o_ifeq 4 12) 4 n_182_4 n_182_12) n_182_4 n_182_12
theorem t_182_1 : e_Sn 182 1 (e_un n_182_1) := u_ifeqT rfl (s_ifne (off := (11)) hq_182 (by decide +kernel) rfl rfl : e_Sn 182 1 (o_ifeq 4 12)) t_182_4 t_182_12
noncomputable def n_182_0 : e_Y := u_ld f_okI f_l1 n_182_1
theorem t_182_0 : e_Sn 182 0 (e_un n_182_0) := u_ldIT f_l1_eq (s_iload (i := .iload_n 1) (len := 1) hq_182 (by decide +kernel) rfl (.inr ⟨1, rfl, rfl, rfl⟩) : e_Sn 182 0 (o_load e_okI 1 1)) t_182_1
noncomputable def e_tb_182 : e_X := (e_br 22 (e_lf 0 (e_un n_182_0)) (e_lf 22 (e_un n_182_22)))
theorem e_tk_182 : e_Tb 182 e_tb_182 := (e_brT (e_lfT t_182_0) (e_lfT t_182_22))
end SN
