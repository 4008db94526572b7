/-! TABLES, by program -/
section SN
theorem hq_131 : (e_ml[131]?).map (·.2.1) = some method_6_code := rfl
theorem ho_131 : (e_ml[131]?).map (·.1.cls) = some "PlateroomprinterLaw" := rfl
theorem hr_131 : (e_ml[131]?).map (·.2.2.2) = some (some .int) := rfl
noncomputable def n_131_16 : e_Y := u_retI
theorem t_131_16 : e_Sn 131 16 (e_un n_131_16) := u_retIT (s_iret hq_131 hr_131 (by decide +kernel) : e_Sn 131 16 (o_ret e_okI))
noncomputable def n_131_15 : e_Y := u_push (.inl 2147483649) n_131_16
theorem t_131_15 : e_Sn 131 15 (e_un n_131_15) := u_pushT (s_iconst (n := (1)) hq_131 (by decide +kernel) rfl ⟨by decide +kernel, by decide +kernel⟩ : e_Sn 131 15 (o_push (.inl 2147483649) 16)) t_131_16
noncomputable def n_131_13 : e_Y := u_st f_okA f_s4 n_131_15
theorem t_131_13 : e_Sn 131 13 (e_un n_131_13) := u_stAT (fun _ _ _ => f_s4_eq) (s_astore (i := .astore 4) (len := 2) hq_131 (by decide +kernel) rfl (.inl ⟨rfl, rfl⟩) : e_Sn 131 13 (o_store e_okR 4 15)) t_131_15
noncomputable def n_131_5 : e_Y := u_tab (o_callVX (e_s1 0 55 3) 3 8 [(2, 13), (0, 17)])
theorem t_131_5 : e_Sn 131 5 (e_un n_131_5) := u_tabT (s_callVX (ci := 0) (C := er_0) (T := et_0) (N := 17) (index := 25) hq_131 ho_131 hy_55 hp_55 hc_55 hi_55 hd_55 (List.mem_of_getElem? (i := 1613) (by decide +kernel)) hs_55 (List.mem_of_getElem? (i := 1453) (by decide +kernel)) rfl (by decide +kernel) rfl hy_131 hc_131 (e_hc2 rfl rfl (by decide) (List.mem_of_getElem? (i := 1612) (by decide +kernel)) (List.mem_of_getElem? (i := 1404) (by decide +kernel)) rfl rfl (by decide) (List.mem_of_getElem? (i := 1564) (by decide +kernel)) (List.mem_of_getElem? (i := 1296) (by decide +kernel)) (by simp [e_nc])) : e_Sn 131 5 (o_callVX (e_s1 0 55 3) 3 8 [(2, 13), (0, 17)]))
noncomputable def n_131_4 : e_Y := u_ld f_okI f_l2 n_131_5
theorem t_131_4 : e_Sn 131 4 (e_un n_131_4) := u_ldIT f_l2_eq (s_iload (i := .iload_n 2) (len := 1) hq_131 (by decide +kernel) rfl (.inr ⟨2, rfl, rfl, rfl⟩) : e_Sn 131 4 (o_load e_okI 2 5)) t_131_5
noncomputable def n_131_3 : e_Y := u_ld f_okI f_l1 n_131_4
theorem t_131_3 : e_Sn 131 3 (e_un n_131_3) := u_ldIT f_l1_eq (s_iload (i := .iload_n 1) (len := 1) hq_131 (by decide +kernel) rfl (.inr ⟨1, rfl, rfl, rfl⟩) : e_Sn 131 3 (o_load e_okI 1 4)) t_131_4
noncomputable def n_131_2 : e_Y := u_ld f_okA f_l0 n_131_3
theorem t_131_2 : e_Sn 131 2 (e_un n_131_2) := u_ldAT f_l0_eq (s_aload (i := .aload_n 0) (len := 1) hq_131 (by decide +kernel) rfl (.inr ⟨0, rfl, rfl, rfl⟩) : e_Sn 131 2 (o_load e_okR 0 3)) t_131_3
noncomputable def n_131_1 : e_Y := u_push (.inl 2147483648) n_131_2
theorem t_131_1 : e_Sn 131 1 (e_un n_131_1) := u_pushT (s_iconst (n := (0)) hq_131 (by decide +kernel) rfl ⟨by decide +kernel, by decide +kernel⟩ : e_Sn 131 1 (o_push (.inl 2147483648) 2)) t_131_2
noncomputable def n_131_0 : e_Y := u_ld f_okA f_l3 n_131_1
theorem t_131_0 : e_Sn 131 0 (e_un n_131_0) := u_ldAT f_l3_eq (s_aload (i := .aload_n 3) (len := 1) hq_131 (by decide +kernel) rfl (.inr ⟨3, rfl, rfl, rfl⟩) : e_Sn 131 0 (o_load e_okR 3 1)) t_131_1
noncomputable def e_tb_131 : e_X := (e_br 13 (e_lf 0 (e_un n_131_0)) (e_lf 13 (e_un n_131_13)))
theorem e_tk_131 : e_Tb 131 e_tb_131 := (e_brT (e_lfT t_131_0) (e_lfT t_131_13))
theorem hq_222 : (e_ml[222]?).map (·.2.1) = some prog_48_method_1_code := rfl
theorem ho_222 : (e_ml[222]?).map (·.1.cls) = some "java/util/AbstractCollection" := rfl
theorem hr_222 : (e_ml[222]?).map (·.2.2.2) = some none := rfl
noncomputable def n_222_4 : e_Y := u_tab (o_retv)
theorem t_222_4 : e_Sn 222 4 (e_un n_222_4) := u_tabT (s_vret hq_222 hr_222 (by decide +kernel) : e_Sn 222 4 (o_retv))
noncomputable def n_222_1 : e_Y := u_tab (o_oinit 4)
theorem t_222_1 : e_Sn 222 1 (e_un n_222_1) := u_tabT (s_oinit (idx := 1) hq_222 ho_222 (List.mem_of_getElem? (i := 1761) (by decide +kernel)) (List.mem_of_getElem? (i := 190) (by decide +kernel)) (List.mem_of_getElem? (i := 191) (by decide +kernel)) (by decide +kernel) rfl : e_Sn 222 1 (o_oinit 4))
noncomputable def n_222_0 : e_Y := u_ld f_okA f_l0 n_222_1
theorem t_222_0 : e_Sn 222 0 (e_un n_222_0) := u_ldAT f_l0_eq (s_aload (i := .aload_n 0) (len := 1) hq_222 (by decide +kernel) rfl (.inr ⟨0, rfl, rfl, rfl⟩) : e_Sn 222 0 (o_load e_okR 0 1)) t_222_1
noncomputable def e_tb_222 : e_X := (e_br 4 (e_lf 0 (e_un n_222_0)) (e_lf 4 (e_un n_222_4)))
theorem e_tk_222 : e_Tb 222 e_tb_222 := (e_brT (e_lfT t_222_0) (e_lfT t_222_4))
theorem hq_223 : (e_ml[223]?).map (·.2.1) = some prog_49_method_1_code := rfl
theorem ho_223 : (e_ml[223]?).map (·.1.cls) = some "java/util/AbstractList" := rfl
theorem hr_223 : (e_ml[223]?).map (·.2.2.2) = some none := rfl
noncomputable def n_223_9 : e_Y := u_tab (o_retv)
theorem t_223_9 : e_Sn 223 9 (e_un n_223_9) := u_tabT (s_vret hq_223 hr_223 (by decide +kernel) : e_Sn 223 9 (o_retv))
noncomputable def n_223_6 : e_Y := u_old (o_putf (e_f1 19 2) e_okI 9) n_223_9
theorem t_223_6 : e_Sn 223 6 (e_un n_223_6) := u_oldT (s_putf (ty0 := ey_19) (ok := e_okI) (C := er_19) (T := et_19) (N := 3) (ref := "java/util/AbstractList") (index := 7) (ci := 19) (k := 2) hq_223 ho_223 ⟨rfl, by decide, ei_19, (List.mem_of_getElem? (i := 1768) (by decide +kernel)), .inl rfl⟩ eo_19 en_19 e_oksI (.inl rfl) (by decide +kernel) rfl : e_Sn 223 6 (o_putf (e_f1 19 2) e_okI 9)) t_223_9 (e_cg_putf (e_f1 19 2) e_okI)
noncomputable def n_223_5 : e_Y := u_push (.inl 2147483648) n_223_6
theorem t_223_5 : e_Sn 223 5 (e_un n_223_5) := u_pushT (s_iconst (n := (0)) hq_223 (by decide +kernel) rfl ⟨by decide +kernel, by decide +kernel⟩ : e_Sn 223 5 (o_push (.inl 2147483648) 6)) t_223_6
noncomputable def n_223_4 : e_Y := u_ld f_okA f_l0 n_223_5
theorem t_223_4 : e_Sn 223 4 (e_un n_223_4) := u_ldAT f_l0_eq (s_aload (i := .aload_n 0) (len := 1) hq_223 (by decide +kernel) rfl (.inr ⟨0, rfl, rfl, rfl⟩) : e_Sn 223 4 (o_load e_okR 0 5)) t_223_5
noncomputable def n_223_1 : e_Y := u_tab (o_callI 222 1 1 4)
theorem t_223_1 : e_Sn 223 1 (e_un n_223_1) := u_tabT (s_callI (index := 1) hq_223 ho_223 hy_222 hp_222 hc_222 hi_222 hd_222 (List.mem_of_getElem? (i := 1758) (by decide +kernel)) rfl rfl hs_222 (by decide +kernel) rfl : e_Sn 223 1 (o_callI 222 1 1 4))
noncomputable def n_223_0 : e_Y := u_ld f_okA f_l0 n_223_1
theorem t_223_0 : e_Sn 223 0 (e_un n_223_0) := u_ldAT f_l0_eq (s_aload (i := .aload_n 0) (len := 1) hq_223 (by decide +kernel) rfl (.inr ⟨0, rfl, rfl, rfl⟩) : e_Sn 223 0 (o_load e_okR 0 1)) t_223_1
noncomputable def e_tb_223 : e_X := (e_br 4 (e_lf 0 (e_un n_223_0)) (e_lf 4 (e_un n_223_4)))
theorem e_tk_223 : e_Tb 223 e_tb_223 := (e_brT (e_lfT t_223_0) (e_lfT t_223_4))
theorem hq_224 : (e_ml[224]?).map (·.2.1) = some prog_50_method_2_code := rfl
theorem ho_224 : (e_ml[224]?).map (·.1.cls) = some "java/util/ArrayList" := rfl
theorem hr_224 : (e_ml[224]?).map (·.2.2.2) = some none := rfl
noncomputable def n_224_11 : e_Y := u_tab (o_retv)
theorem t_224_11 : e_Sn 224 11 (e_un n_224_11) := u_tabT (s_vret hq_224 hr_224 (by decide +kernel) : e_Sn 224 11 (o_retv))
noncomputable def n_224_8 : e_Y := u_old (o_putf (e_f1 19 0) e_okR 11) n_224_11
theorem t_224_8 : e_Sn 224 8 (e_un n_224_8) := u_oldT (s_putf (ty0 := ey_19) (ok := e_okR) (C := er_19) (T := et_19) (N := 3) (ref := "java/util/ArrayList") (index := 9) (ci := 19) (k := 0) hq_224 ho_224 ⟨rfl, by decide, ei_19, (List.mem_of_getElem? (i := 1764) (by decide +kernel)), .inl rfl⟩ eo_19 en_19 e_oksA (.inl rfl) (by decide +kernel) rfl : e_Sn 224 8 (o_putf (e_f1 19 0) e_okR 11)) t_224_11 (e_cg_putf (e_f1 19 0) e_okR)
noncomputable def n_224_5 : e_Y := u_push (e_B 3) n_224_8
theorem t_224_5 : e_Sn 224 5 (e_un n_224_5) := u_pushT (s_gets (k := 3) (index := 39) (C := "java/util/ArrayList") (f := "DEFAULTCAPACITY_EMPTY_ELEMENTDATA") (d := "[Ljava/lang/Object;") hq_224 ho_224 (List.mem_of_getElem? (i := 1762) (by decide +kernel)) (by simp [e_sv]) (by decide +kernel) rfl : e_Sn 224 5 (o_push (e_B 3) 8)) t_224_8
noncomputable def n_224_4 : e_Y := u_ld f_okA f_l0 n_224_5
theorem t_224_4 : e_Sn 224 4 (e_un n_224_4) := u_ldAT f_l0_eq (s_aload (i := .aload_n 0) (len := 1) hq_224 (by decide +kernel) rfl (.inr ⟨0, rfl, rfl, rfl⟩) : e_Sn 224 4 (o_load e_okR 0 5)) t_224_5
noncomputable def n_224_1 : e_Y := u_tab (o_callI 223 1 1 4)
theorem t_224_1 : e_Sn 224 1 (e_un n_224_1) := u_tabT (s_callI (index := 1) hq_224 ho_224 hy_223 hp_223 hc_223 hi_223 hd_223 (List.mem_of_getElem? (i := 1755) (by decide +kernel)) rfl rfl hs_223 (by decide +kernel) rfl : e_Sn 224 1 (o_callI 223 1 1 4))
noncomputable def n_224_0 : e_Y := u_ld f_okA f_l0 n_224_1
theorem t_224_0 : e_Sn 224 0 (e_un n_224_0) := u_ldAT f_l0_eq (s_aload (i := .aload_n 0) (len := 1) hq_224 (by decide +kernel) rfl (.inr ⟨0, rfl, rfl, rfl⟩) : e_Sn 224 0 (o_load e_okR 0 1)) t_224_1
noncomputable def e_tb_224 : e_X := (e_br 4 (e_lf 0 (e_un n_224_0)) (e_lf 4 (e_un n_224_4)))
theorem e_tk_224 : e_Tb 224 e_tb_224 := (e_brT (e_lfT t_224_0) (e_lfT t_224_4))
theorem hq_213 : (e_ml[213]?).map (·.2.1) = some prog_21_method_1_code := rfl
theorem ho_213 : (e_ml[213]?).map (·.1.cls) = some "PlateroomprinterModel$State" := rfl
theorem hr_213 : (e_ml[213]?).map (·.2.2.2) = some none := rfl
noncomputable def n_213_157 : e_Y := u_tab (o_retv)
theorem t_213_157 : e_Sn 213 157 (e_un n_213_157) := u_tabT (s_vret hq_213 hr_213 (by decide +kernel) : e_Sn 213 157 (o_retv))
noncomputable def n_213_154 : e_Y := (u_at 135)
theorem t_213_154 : e_Sn 213 154 (e_un n_213_154) := u_gotoT (s_goto (off := (-19)) hq_213 (by decide +kernel) rfl : e_Sn 213 154 (o_goto 135)) u_atT
noncomputable def n_213_151 : e_Y := u_inc f_l1 f_s1 1 n_213_154
theorem t_213_151 : e_Sn 213 151 (e_un n_213_151) := u_incT f_l1_eq (fun _ _ _ => f_s1_eq) (s_iinc (zz := (1)) hq_213 (by decide +kernel) rfl (by decide +kernel) ⟨by decide, by decide⟩ : e_Sn 213 151 (o_iinc 1 1 154)) t_213_154
noncomputable def n_213_150 : e_Y := u_old (o_ast 1 e_okZ 151) n_213_151
theorem t_213_150 : e_Sn 213 150 (e_un n_213_150) := u_oldT (s_zast hq_213 (by decide +kernel) rfl : e_Sn 213 150 (o_ast 1 e_okZ 151)) t_213_151 (e_cg_ast 1 e_okZ)
noncomputable def n_213_149 : e_Y := u_push (.inl 2147483649) n_213_150
theorem t_213_149 : e_Sn 213 149 (e_un n_213_149) := u_pushT (s_iconst (n := (1)) hq_213 (by decide +kernel) rfl ⟨by decide +kernel, by decide +kernel⟩ : e_Sn 213 149 (o_push (.inl 2147483649) 150)) t_213_150
noncomputable def n_213_148 : e_Y := u_ld f_okI f_l1 n_213_149
theorem t_213_148 : e_Sn 213 148 (e_un n_213_148) := u_ldIT f_l1_eq (s_iload (i := .iload_n 1) (len := 1) hq_213 (by decide +kernel) rfl (.inr ⟨1, rfl, rfl, rfl⟩) : e_Sn 213 148 (o_load e_okI 1 149)) t_213_149
noncomputable def n_213_145 : e_Y := u_getf 17 3 (u_old (o_getf (e_f1 17 3) 148) n_213_148) n_213_148
theorem t_213_145 : e_Sn 213 145 (e_un n_213_145) := u_getfT (s_getf (C := er_17) (T := et_17) (N := 6) (ref := "PlateroomprinterModel$State") (index := 22) (ci := 17) (k := 3) hq_213 ho_213 ⟨rfl, by decide, ei_17, (List.mem_of_getElem? (i := 1797) (by decide +kernel)), .inl rfl⟩ (by decide +kernel) rfl : e_Sn 213 145 (o_getf (e_f1 17 3) 148)) t_213_148
noncomputable def n_213_144 : e_Y := u_ld f_okA f_l0 n_213_145
theorem t_213_144 : e_Sn 213 144 (e_un n_213_144) := u_ldAT f_l0_eq (s_aload (i := .aload_n 0) (len := 1) hq_213 (by decide +kernel) rfl (.inr ⟨0, rfl, rfl, rfl⟩) : e_Sn 213 144 (o_load e_okR 0 145)) t_213_145
noncomputable def n_213_141 : e_Y := u_jmp y_ge (u_old2 (o_clt 144 157) 144 n_213_144 n_213_157) n_213_144 n_213_157
theorem t_213_141 : e_Sn 213 141 (e_un n_213_141) := u_cltT rfl (s_cge (off := (16)) hq_213 (by decide +kernel) rfl rfl : e_Sn 213 141 (o_clt 144 157)) t_213_144 t_213_157
noncomputable def n_213_140 : e_Y := u_old (o_alen e_fcs 141) n_213_141
theorem t_213_140 : e_Sn 213 140 (e_un n_213_140) := u_oldT (s_alen hq_213 (by decide +kernel) rfl : e_Sn 213 140 (o_alen e_fcs 141)) t_213_141 (e_cg_alen e_fcs)
noncomputable def n_213_137 : e_Y := u_getf 17 3 (u_old (o_getf (e_f1 17 3) 140) n_213_140) n_213_140
theorem t_213_137 : e_Sn 213 137 (e_un n_213_137) := u_getfT (s_getf (C := er_17) (T := et_17) (N := 6) (ref := "PlateroomprinterModel$State") (index := 22) (ci := 17) (k := 3) hq_213 ho_213 ⟨rfl, by decide, ei_17, (List.mem_of_getElem? (i := 1797) (by decide +kernel)), .inl rfl⟩ (by decide +kernel) rfl : e_Sn 213 137 (o_getf (e_f1 17 3) 140)) t_213_140
noncomputable def n_213_136 : e_Y := u_ld f_okA f_l0 n_213_137
theorem t_213_136 : e_Sn 213 136 (e_un n_213_136) := u_ldAT f_l0_eq (s_aload (i := .aload_n 0) (len := 1) hq_213 (by decide +kernel) rfl (.inr ⟨0, rfl, rfl, rfl⟩) : e_Sn 213 136 (o_load e_okR 0 137)) t_213_137
noncomputable def n_213_135 : e_Y := u_ld f_okI f_l1 n_213_136
theorem t_213_135 : e_Sn 213 135 (e_un n_213_135) := u_ldIT f_l1_eq (s_iload (i := .iload_n 1) (len := 1) hq_213 (by decide +kernel) rfl (.inr ⟨1, rfl, rfl, rfl⟩) : e_Sn 213 135 (o_load e_okI 1 136)) t_213_136
noncomputable def n_213_134 : e_Y := u_st f_okI f_s1 n_213_135
theorem t_213_134 : e_Sn 213 134 (e_un n_213_134) := u_stIT (fun _ _ _ => f_s1_eq) (s_istore (i := .istore_n 1) (len := 1) hq_213 (by decide +kernel) rfl (.inr ⟨1, rfl, rfl, rfl⟩) : e_Sn 213 134 (o_store e_okI 1 135)) t_213_135
noncomputable def n_213_133 : e_Y := u_push (.inl 2147483648) n_213_134
theorem t_213_133 : e_Sn 213 133 (e_un n_213_133) := u_pushT (s_iconst (n := (0)) hq_213 (by decide +kernel) rfl ⟨by decide +kernel, by decide +kernel⟩ : e_Sn 213 133 (o_push (.inl 2147483648) 134)) t_213_134
noncomputable def n_213_130 : e_Y := u_old (o_putf (e_f1 17 5) e_okR 133) n_213_133
theorem t_213_130 : e_Sn 213 130 (e_un n_213_130) := u_oldT (s_putf (ty0 := ey_17) (ok := e_okR) (C := er_17) (T := et_17) (N := 6) (ref := "PlateroomprinterModel$State") (index := 30) (ci := 17) (k := 5) hq_213 ho_213 ⟨rfl, by decide, ei_17, (List.mem_of_getElem? (i := 1803) (by decide +kernel)), .inl rfl⟩ eo_17 en_17 e_oksA (.inl rfl) (by decide +kernel) rfl : e_Sn 213 130 (o_putf (e_f1 17 5) e_okR 133)) t_213_133 (e_cg_putf (e_f1 17 5) e_okR)
noncomputable def n_213_129 : e_Y := u_old (o_ast 0 e_okI 130) n_213_130
theorem t_213_129 : e_Sn 213 129 (e_un n_213_129) := u_oldT (s_iast hq_213 (by decide +kernel) rfl : e_Sn 213 129 (o_ast 0 e_okI 130)) t_213_130 (e_cg_ast 0 e_okI)
noncomputable def n_213_128 : e_Y := u_push (.inl 2147483649) n_213_129
theorem t_213_128 : e_Sn 213 128 (e_un n_213_128) := u_pushT (s_iconst (n := (1)) hq_213 (by decide +kernel) rfl ⟨by decide +kernel, by decide +kernel⟩ : e_Sn 213 128 (o_push (.inl 2147483649) 129)) t_213_129
noncomputable def n_213_127 : e_Y := u_push (.inl 2147483651) n_213_128
theorem t_213_127 : e_Sn 213 127 (e_un n_213_127) := u_pushT (s_iconst (n := (3)) hq_213 (by decide +kernel) rfl ⟨by decide +kernel, by decide +kernel⟩ : e_Sn 213 127 (o_push (.inl 2147483651) 128)) t_213_128
noncomputable def n_213_126 : e_Y := u_old (o_dup 127) n_213_127
theorem t_213_126 : e_Sn 213 126 (e_un n_213_126) := u_oldT (s_dup hq_213 (by decide +kernel) rfl : e_Sn 213 126 (o_dup 127)) t_213_127 e_cg_dup
noncomputable def n_213_125 : e_Y := u_old (o_ast 0 e_okI 126) n_213_126
theorem t_213_125 : e_Sn 213 125 (e_un n_213_125) := u_oldT (s_iast hq_213 (by decide +kernel) rfl : e_Sn 213 125 (o_ast 0 e_okI 126)) t_213_126 (e_cg_ast 0 e_okI)
noncomputable def n_213_124 : e_Y := u_push (.inl 2147483648) n_213_125
theorem t_213_124 : e_Sn 213 124 (e_un n_213_124) := u_pushT (s_iconst (n := (0)) hq_213 (by decide +kernel) rfl ⟨by decide +kernel, by decide +kernel⟩ : e_Sn 213 124 (o_push (.inl 2147483648) 125)) t_213_125
noncomputable def n_213_123 : e_Y := u_push (.inl 2147483650) n_213_124
theorem t_213_123 : e_Sn 213 123 (e_un n_213_123) := u_pushT (s_iconst (n := (2)) hq_213 (by decide +kernel) rfl ⟨by decide +kernel, by decide +kernel⟩ : e_Sn 213 123 (o_push (.inl 2147483650) 124)) t_213_124
noncomputable def n_213_122 : e_Y := u_old (o_dup 123) n_213_123
theorem t_213_122 : e_Sn 213 122 (e_un n_213_122) := u_oldT (s_dup hq_213 (by decide +kernel) rfl : e_Sn 213 122 (o_dup 123)) t_213_123 e_cg_dup
noncomputable def n_213_121 : e_Y := u_old (o_ast 0 e_okI 122) n_213_122
theorem t_213_121 : e_Sn 213 121 (e_un n_213_121) := u_oldT (s_iast hq_213 (by decide +kernel) rfl : e_Sn 213 121 (o_ast 0 e_okI 122)) t_213_122 (e_cg_ast 0 e_okI)
noncomputable def n_213_120 : e_Y := u_push (.inl 2147483648) n_213_121
theorem t_213_120 : e_Sn 213 120 (e_un n_213_120) := u_pushT (s_iconst (n := (0)) hq_213 (by decide +kernel) rfl ⟨by decide +kernel, by decide +kernel⟩ : e_Sn 213 120 (o_push (.inl 2147483648) 121)) t_213_121
noncomputable def n_213_119 : e_Y := u_push (.inl 2147483649) n_213_120
theorem t_213_119 : e_Sn 213 119 (e_un n_213_119) := u_pushT (s_iconst (n := (1)) hq_213 (by decide +kernel) rfl ⟨by decide +kernel, by decide +kernel⟩ : e_Sn 213 119 (o_push (.inl 2147483649) 120)) t_213_120
noncomputable def n_213_118 : e_Y := u_old (o_dup 119) n_213_119
theorem t_213_118 : e_Sn 213 118 (e_un n_213_118) := u_oldT (s_dup hq_213 (by decide +kernel) rfl : e_Sn 213 118 (o_dup 119)) t_213_119 e_cg_dup
noncomputable def n_213_117 : e_Y := u_old (o_ast 0 e_okI 118) n_213_118
theorem t_213_117 : e_Sn 213 117 (e_un n_213_117) := u_oldT (s_iast hq_213 (by decide +kernel) rfl : e_Sn 213 117 (o_ast 0 e_okI 118)) t_213_118 (e_cg_ast 0 e_okI)
noncomputable def n_213_116 : e_Y := u_push (.inl 2147483649) n_213_117
theorem t_213_116 : e_Sn 213 116 (e_un n_213_116) := u_pushT (s_iconst (n := (1)) hq_213 (by decide +kernel) rfl ⟨by decide +kernel, by decide +kernel⟩ : e_Sn 213 116 (o_push (.inl 2147483649) 117)) t_213_117
noncomputable def n_213_115 : e_Y := u_push (.inl 2147483648) n_213_116
theorem t_213_115 : e_Sn 213 115 (e_un n_213_115) := u_pushT (s_iconst (n := (0)) hq_213 (by decide +kernel) rfl ⟨by decide +kernel, by decide +kernel⟩ : e_Sn 213 115 (o_push (.inl 2147483648) 116)) t_213_116
noncomputable def n_213_114 : e_Y := u_old (o_dup 115) n_213_115
theorem t_213_114 : e_Sn 213 114 (e_un n_213_114) := u_oldT (s_dup hq_213 (by decide +kernel) rfl : e_Sn 213 114 (o_dup 115)) t_213_115 e_cg_dup
noncomputable def n_213_112 : e_Y := u_tab (o_newa 0 (e_I 2147483648) 114)
theorem t_213_112 : e_Sn 213 112 (e_un n_213_112) := u_tabT (s_newI (List.mem_of_getElem? (i := 215) (by decide +kernel)) hq_213 (by decide +kernel) rfl : e_Sn 213 112 (o_newa 0 (e_I 2147483648) 114))
noncomputable def n_213_111 : e_Y := u_push (.inl 2147483652) n_213_112
theorem t_213_111 : e_Sn 213 111 (e_un n_213_111) := u_pushT (s_iconst (n := (4)) hq_213 (by decide +kernel) rfl ⟨by decide +kernel, by decide +kernel⟩ : e_Sn 213 111 (o_push (.inl 2147483652) 112)) t_213_112
noncomputable def n_213_110 : e_Y := u_ld f_okA f_l0 n_213_111
theorem t_213_110 : e_Sn 213 110 (e_un n_213_110) := u_ldAT f_l0_eq (s_aload (i := .aload_n 0) (len := 1) hq_213 (by decide +kernel) rfl (.inr ⟨0, rfl, rfl, rfl⟩) : e_Sn 213 110 (o_load e_okR 0 111)) t_213_111
noncomputable def n_213_107 : e_Y := u_old (o_putf (e_f1 17 4) e_okR 110) n_213_110
theorem t_213_107 : e_Sn 213 107 (e_un n_213_107) := u_oldT (s_putf (ty0 := ey_17) (ok := e_okR) (C := er_17) (T := et_17) (N := 6) (ref := "PlateroomprinterModel$State") (index := 26) (ci := 17) (k := 4) hq_213 ho_213 ⟨rfl, by decide, ei_17, (List.mem_of_getElem? (i := 1800) (by decide +kernel)), .inl rfl⟩ eo_17 en_17 e_oksA (.inl rfl) (by decide +kernel) rfl : e_Sn 213 107 (o_putf (e_f1 17 4) e_okR 110)) t_213_110 (e_cg_putf (e_f1 17 4) e_okR)
noncomputable def n_213_106 : e_Y := u_old (o_ast 0 e_okI 107) n_213_107
theorem t_213_106 : e_Sn 213 106 (e_un n_213_106) := u_oldT (s_iast hq_213 (by decide +kernel) rfl : e_Sn 213 106 (o_ast 0 e_okI 107)) t_213_107 (e_cg_ast 0 e_okI)
noncomputable def n_213_104 : e_Y := u_push (.inl 2147483664) n_213_106
theorem t_213_104 : e_Sn 213 104 (e_un n_213_104) := u_pushT (s_bipush (n := (16)) hq_213 (by decide +kernel) rfl ⟨by decide +kernel, by decide +kernel⟩ : e_Sn 213 104 (o_push (.inl 2147483664) 106)) t_213_106
noncomputable def n_213_103 : e_Y := u_push (.inl 2147483651) n_213_104
theorem t_213_103 : e_Sn 213 103 (e_un n_213_103) := u_pushT (s_iconst (n := (3)) hq_213 (by decide +kernel) rfl ⟨by decide +kernel, by decide +kernel⟩ : e_Sn 213 103 (o_push (.inl 2147483651) 104)) t_213_104
noncomputable def n_213_102 : e_Y := u_old (o_dup 103) n_213_103
theorem t_213_102 : e_Sn 213 102 (e_un n_213_102) := u_oldT (s_dup hq_213 (by decide +kernel) rfl : e_Sn 213 102 (o_dup 103)) t_213_103 e_cg_dup
noncomputable def n_213_101 : e_Y := u_old (o_ast 0 e_okI 102) n_213_102
theorem t_213_101 : e_Sn 213 101 (e_un n_213_101) := u_oldT (s_iast hq_213 (by decide +kernel) rfl : e_Sn 213 101 (o_ast 0 e_okI 102)) t_213_102 (e_cg_ast 0 e_okI)
noncomputable def n_213_100 : e_Y := u_push (.inl 2147483648) n_213_101
theorem t_213_100 : e_Sn 213 100 (e_un n_213_100) := u_pushT (s_iconst (n := (0)) hq_213 (by decide +kernel) rfl ⟨by decide +kernel, by decide +kernel⟩ : e_Sn 213 100 (o_push (.inl 2147483648) 101)) t_213_101
noncomputable def n_213_99 : e_Y := u_push (.inl 2147483650) n_213_100
theorem t_213_99 : e_Sn 213 99 (e_un n_213_99) := u_pushT (s_iconst (n := (2)) hq_213 (by decide +kernel) rfl ⟨by decide +kernel, by decide +kernel⟩ : e_Sn 213 99 (o_push (.inl 2147483650) 100)) t_213_100
noncomputable def n_213_98 : e_Y := u_old (o_dup 99) n_213_99
theorem t_213_98 : e_Sn 213 98 (e_un n_213_98) := u_oldT (s_dup hq_213 (by decide +kernel) rfl : e_Sn 213 98 (o_dup 99)) t_213_99 e_cg_dup
noncomputable def n_213_97 : e_Y := u_old (o_ast 0 e_okI 98) n_213_98
theorem t_213_97 : e_Sn 213 97 (e_un n_213_97) := u_oldT (s_iast hq_213 (by decide +kernel) rfl : e_Sn 213 97 (o_ast 0 e_okI 98)) t_213_98 (e_cg_ast 0 e_okI)
noncomputable def n_213_96 : e_Y := u_push (.inl 2147483648) n_213_97
theorem t_213_96 : e_Sn 213 96 (e_un n_213_96) := u_pushT (s_iconst (n := (0)) hq_213 (by decide +kernel) rfl ⟨by decide +kernel, by decide +kernel⟩ : e_Sn 213 96 (o_push (.inl 2147483648) 97)) t_213_97
noncomputable def n_213_95 : e_Y := u_push (.inl 2147483649) n_213_96
theorem t_213_95 : e_Sn 213 95 (e_un n_213_95) := u_pushT (s_iconst (n := (1)) hq_213 (by decide +kernel) rfl ⟨by decide +kernel, by decide +kernel⟩ : e_Sn 213 95 (o_push (.inl 2147483649) 96)) t_213_96
noncomputable def n_213_94 : e_Y := u_old (o_dup 95) n_213_95
theorem t_213_94 : e_Sn 213 94 (e_un n_213_94) := u_oldT (s_dup hq_213 (by decide +kernel) rfl : e_Sn 213 94 (o_dup 95)) t_213_95 e_cg_dup
noncomputable def n_213_93 : e_Y := u_old (o_ast 0 e_okI 94) n_213_94
theorem t_213_93 : e_Sn 213 93 (e_un n_213_93) := u_oldT (s_iast hq_213 (by decide +kernel) rfl : e_Sn 213 93 (o_ast 0 e_okI 94)) t_213_94 (e_cg_ast 0 e_okI)
noncomputable def n_213_92 : e_Y := u_push (.inl 2147483648) n_213_93
theorem t_213_92 : e_Sn 213 92 (e_un n_213_92) := u_pushT (s_iconst (n := (0)) hq_213 (by decide +kernel) rfl ⟨by decide +kernel, by decide +kernel⟩ : e_Sn 213 92 (o_push (.inl 2147483648) 93)) t_213_93
noncomputable def n_213_91 : e_Y := u_push (.inl 2147483648) n_213_92
theorem t_213_91 : e_Sn 213 91 (e_un n_213_91) := u_pushT (s_iconst (n := (0)) hq_213 (by decide +kernel) rfl ⟨by decide +kernel, by decide +kernel⟩ : e_Sn 213 91 (o_push (.inl 2147483648) 92)) t_213_92
noncomputable def n_213_90 : e_Y := u_old (o_dup 91) n_213_91
theorem t_213_90 : e_Sn 213 90 (e_un n_213_90) := u_oldT (s_dup hq_213 (by decide +kernel) rfl : e_Sn 213 90 (o_dup 91)) t_213_91 e_cg_dup
noncomputable def n_213_88 : e_Y := u_tab (o_newa 0 (e_I 2147483648) 90)
theorem t_213_88 : e_Sn 213 88 (e_un n_213_88) := u_tabT (s_newI (List.mem_of_getElem? (i := 215) (by decide +kernel)) hq_213 (by decide +kernel) rfl : e_Sn 213 88 (o_newa 0 (e_I 2147483648) 90))
noncomputable def n_213_87 : e_Y := u_push (.inl 2147483652) n_213_88
theorem t_213_87 : e_Sn 213 87 (e_un n_213_87) := u_pushT (s_iconst (n := (4)) hq_213 (by decide +kernel) rfl ⟨by decide +kernel, by decide +kernel⟩ : e_Sn 213 87 (o_push (.inl 2147483652) 88)) t_213_88
noncomputable def n_213_86 : e_Y := u_ld f_okA f_l0 n_213_87
theorem t_213_86 : e_Sn 213 86 (e_un n_213_86) := u_ldAT f_l0_eq (s_aload (i := .aload_n 0) (len := 1) hq_213 (by decide +kernel) rfl (.inr ⟨0, rfl, rfl, rfl⟩) : e_Sn 213 86 (o_load e_okR 0 87)) t_213_87
noncomputable def n_213_83 : e_Y := u_old (o_putf (e_f1 17 3) e_okR 86) n_213_86
theorem t_213_83 : e_Sn 213 83 (e_un n_213_83) := u_oldT (s_putf (ty0 := ey_17) (ok := e_okR) (C := er_17) (T := et_17) (N := 6) (ref := "PlateroomprinterModel$State") (index := 22) (ci := 17) (k := 3) hq_213 ho_213 ⟨rfl, by decide, ei_17, (List.mem_of_getElem? (i := 1797) (by decide +kernel)), .inl rfl⟩ eo_17 en_17 e_oksA (.inl rfl) (by decide +kernel) rfl : e_Sn 213 83 (o_putf (e_f1 17 3) e_okR 86)) t_213_86 (e_cg_putf (e_f1 17 3) e_okR)
noncomputable def n_213_81 : e_Y := u_tab (o_newa 1 (e_I 2147483648) 83)
theorem t_213_81 : e_Sn 213 81 (e_un n_213_81) := u_tabT (s_newZ (List.mem_of_getElem? (i := 1819) (by decide +kernel)) hq_213 (by decide +kernel) rfl : e_Sn 213 81 (o_newa 1 (e_I 2147483648) 83))
noncomputable def n_213_78 : e_Y := u_push (.inl 2147484672) n_213_81
theorem t_213_78 : e_Sn 213 78 (e_un n_213_78) := u_pushT (s_sipush (n := (1024)) hq_213 (by decide +kernel) rfl ⟨by decide +kernel, by decide +kernel⟩ : e_Sn 213 78 (o_push (.inl 2147484672) 81)) t_213_81
noncomputable def n_213_77 : e_Y := u_ld f_okA f_l0 n_213_78
theorem t_213_77 : e_Sn 213 77 (e_un n_213_77) := u_ldAT f_l0_eq (s_aload (i := .aload_n 0) (len := 1) hq_213 (by decide +kernel) rfl (.inr ⟨0, rfl, rfl, rfl⟩) : e_Sn 213 77 (o_load e_okR 0 78)) t_213_78
noncomputable def n_213_74 : e_Y := u_old (o_putf (e_f1 17 1) e_okR 77) n_213_77
theorem t_213_74 : e_Sn 213 74 (e_un n_213_74) := u_oldT (s_putf (ty0 := ey_17) (ok := e_okR) (C := er_17) (T := et_17) (N := 6) (ref := "PlateroomprinterModel$State") (index := 18) (ci := 17) (k := 1) hq_213 ho_213 ⟨rfl, by decide, ei_17, (List.mem_of_getElem? (i := 1791) (by decide +kernel)), .inl rfl⟩ eo_17 en_17 e_oksR (.inl rfl) (by decide +kernel) rfl : e_Sn 213 74 (o_putf (e_f1 17 1) e_okR 77)) t_213_77 (e_cg_putf (e_f1 17 1) e_okR)
noncomputable def n_213_71 : e_Y := u_tab (o_callI 224 1 1 74)
theorem t_213_71 : e_Sn 213 71 (e_un n_213_71) := u_tabT (s_callI (index := 17) hq_213 ho_213 hy_224 hp_224 hc_224 hi_224 hd_224 (List.mem_of_getElem? (i := 1788) (by decide +kernel)) rfl rfl hs_224 (by decide +kernel) rfl : e_Sn 213 71 (o_callI 224 1 1 74))
noncomputable def n_213_70 : e_Y := u_old (o_dup 71) n_213_71
theorem t_213_70 : e_Sn 213 70 (e_un n_213_70) := u_oldT (s_dup hq_213 (by decide +kernel) rfl : e_Sn 213 70 (o_dup 71)) t_213_71 e_cg_dup
noncomputable def n_213_67 : e_Y := u_tab (o_new 19 3 ef_19 70)
theorem t_213_67 : e_Sn 213 67 (e_un n_213_67) := u_tabT (s_new (index := 15) (ci := 19) (N := 3) (C := er_19) (T := et_19) (ty0 := ey_19) (fv := eg_19) hq_213 ho_213 rfl ei_19 eo_19 (List.mem_of_getElem? (i := 1787) (by decide +kernel)) (List.mem_of_getElem? (i := 1751) (by decide +kernel)) (List.mem_of_getElem? (i := 155) (by decide +kernel)) eh_19 rfl (e_newrel ek_19) (by decide +kernel) rfl : e_Sn 213 67 (o_new 19 3 ef_19 70))
noncomputable def n_213_66 : e_Y := u_ld f_okA f_l0 n_213_67
theorem t_213_66 : e_Sn 213 66 (e_un n_213_66) := u_ldAT f_l0_eq (s_aload (i := .aload_n 0) (len := 1) hq_213 (by decide +kernel) rfl (.inr ⟨0, rfl, rfl, rfl⟩) : e_Sn 213 66 (o_load e_okR 0 67)) t_213_67
noncomputable def n_213_63 : e_Y := u_old (o_putf (e_f1 17 0) e_okR 66) n_213_66
theorem t_213_63 : e_Sn 213 63 (e_un n_213_63) := u_oldT (s_putf (ty0 := ey_17) (ok := e_okR) (C := er_17) (T := et_17) (N := 6) (ref := "PlateroomprinterModel$State") (index := 9) (ci := 17) (k := 0) hq_213 ho_213 ⟨rfl, by decide, ei_17, (List.mem_of_getElem? (i := 1789) (by decide +kernel)), .inl rfl⟩ eo_17 en_17 e_oksA (.inl rfl) (by decide +kernel) rfl : e_Sn 213 63 (o_putf (e_f1 17 0) e_okR 66)) t_213_66 (e_cg_putf (e_f1 17 0) e_okR)
noncomputable def n_213_62 : e_Y := u_old (o_ast 2 e_okL 63) n_213_63
theorem t_213_62 : e_Sn 213 62 (e_un n_213_62) := u_oldT (s_last hq_213 (by decide +kernel) rfl : e_Sn 213 62 (o_ast 2 e_okL 63)) t_213_63 (e_cg_ast 2 e_okL)
noncomputable def n_213_61 : e_Y := u_push (e_L 9223372036854775809) n_213_62
theorem t_213_61 : e_Sn 213 61 (e_un n_213_61) := u_pushT (s_lconst (n := 1) hq_213 (by decide +kernel) rfl ⟨by decide +kernel, by decide +kernel⟩ : e_Sn 213 61 (o_push (e_L 9223372036854775809) 62)) t_213_62
noncomputable def n_213_59 : e_Y := u_push (.inl 2147483659) n_213_61
theorem t_213_59 : e_Sn 213 59 (e_un n_213_59) := u_pushT (s_bipush (n := (11)) hq_213 (by decide +kernel) rfl ⟨by decide +kernel, by decide +kernel⟩ : e_Sn 213 59 (o_push (.inl 2147483659) 61)) t_213_61
noncomputable def n_213_58 : e_Y := u_old (o_dup 59) n_213_59
theorem t_213_58 : e_Sn 213 58 (e_un n_213_58) := u_oldT (s_dup hq_213 (by decide +kernel) rfl : e_Sn 213 58 (o_dup 59)) t_213_59 e_cg_dup
noncomputable def n_213_57 : e_Y := u_old (o_ast 2 e_okL 58) n_213_58
theorem t_213_57 : e_Sn 213 57 (e_un n_213_57) := u_oldT (s_last hq_213 (by decide +kernel) rfl : e_Sn 213 57 (o_ast 2 e_okL 58)) t_213_58 (e_cg_ast 2 e_okL)
noncomputable def n_213_56 : e_Y := u_push (e_L 9223372036854775808) n_213_57
theorem t_213_56 : e_Sn 213 56 (e_un n_213_56) := u_pushT (s_lconst (n := 0) hq_213 (by decide +kernel) rfl ⟨by decide +kernel, by decide +kernel⟩ : e_Sn 213 56 (o_push (e_L 9223372036854775808) 57)) t_213_57
noncomputable def n_213_54 : e_Y := u_push (.inl 2147483658) n_213_56
theorem t_213_54 : e_Sn 213 54 (e_un n_213_54) := u_pushT (s_bipush (n := (10)) hq_213 (by decide +kernel) rfl ⟨by decide +kernel, by decide +kernel⟩ : e_Sn 213 54 (o_push (.inl 2147483658) 56)) t_213_56
noncomputable def n_213_53 : e_Y := u_old (o_dup 54) n_213_54
theorem t_213_53 : e_Sn 213 53 (e_un n_213_53) := u_oldT (s_dup hq_213 (by decide +kernel) rfl : e_Sn 213 53 (o_dup 54)) t_213_54 e_cg_dup
noncomputable def n_213_52 : e_Y := u_old (o_ast 2 e_okL 53) n_213_53
theorem t_213_52 : e_Sn 213 52 (e_un n_213_52) := u_oldT (s_last hq_213 (by decide +kernel) rfl : e_Sn 213 52 (o_ast 2 e_okL 53)) t_213_53 (e_cg_ast 2 e_okL)
noncomputable def n_213_51 : e_Y := u_push (e_L 9223372036854775809) n_213_52
theorem t_213_51 : e_Sn 213 51 (e_un n_213_51) := u_pushT (s_lconst (n := 1) hq_213 (by decide +kernel) rfl ⟨by decide +kernel, by decide +kernel⟩ : e_Sn 213 51 (o_push (e_L 9223372036854775809) 52)) t_213_52
noncomputable def n_213_49 : e_Y := u_push (.inl 2147483657) n_213_51
theorem t_213_49 : e_Sn 213 49 (e_un n_213_49) := u_pushT (s_bipush (n := (9)) hq_213 (by decide +kernel) rfl ⟨by decide +kernel, by decide +kernel⟩ : e_Sn 213 49 (o_push (.inl 2147483657) 51)) t_213_51
noncomputable def n_213_48 : e_Y := u_old (o_dup 49) n_213_49
theorem t_213_48 : e_Sn 213 48 (e_un n_213_48) := u_oldT (s_dup hq_213 (by decide +kernel) rfl : e_Sn 213 48 (o_dup 49)) t_213_49 e_cg_dup
noncomputable def n_213_47 : e_Y := u_old (o_ast 2 e_okL 48) n_213_48
theorem t_213_47 : e_Sn 213 47 (e_un n_213_47) := u_oldT (s_last hq_213 (by decide +kernel) rfl : e_Sn 213 47 (o_ast 2 e_okL 48)) t_213_48 (e_cg_ast 2 e_okL)
noncomputable def n_213_46 : e_Y := u_push (e_L 9223372036854775808) n_213_47
theorem t_213_46 : e_Sn 213 46 (e_un n_213_46) := u_pushT (s_lconst (n := 0) hq_213 (by decide +kernel) rfl ⟨by decide +kernel, by decide +kernel⟩ : e_Sn 213 46 (o_push (e_L 9223372036854775808) 47)) t_213_47
noncomputable def n_213_44 : e_Y := u_push (.inl 2147483656) n_213_46
theorem t_213_44 : e_Sn 213 44 (e_un n_213_44) := u_pushT (s_bipush (n := (8)) hq_213 (by decide +kernel) rfl ⟨by decide +kernel, by decide +kernel⟩ : e_Sn 213 44 (o_push (.inl 2147483656) 46)) t_213_46
noncomputable def n_213_43 : e_Y := u_old (o_dup 44) n_213_44
theorem t_213_43 : e_Sn 213 43 (e_un n_213_43) := u_oldT (s_dup hq_213 (by decide +kernel) rfl : e_Sn 213 43 (o_dup 44)) t_213_44 e_cg_dup
noncomputable def n_213_42 : e_Y := u_old (o_ast 2 e_okL 43) n_213_43
theorem t_213_42 : e_Sn 213 42 (e_un n_213_42) := u_oldT (s_last hq_213 (by decide +kernel) rfl : e_Sn 213 42 (o_ast 2 e_okL 43)) t_213_43 (e_cg_ast 2 e_okL)
noncomputable def n_213_41 : e_Y := u_push (e_L 9223372036854775809) n_213_42
theorem t_213_41 : e_Sn 213 41 (e_un n_213_41) := u_pushT (s_lconst (n := 1) hq_213 (by decide +kernel) rfl ⟨by decide +kernel, by decide +kernel⟩ : e_Sn 213 41 (o_push (e_L 9223372036854775809) 42)) t_213_42
noncomputable def n_213_39 : e_Y := u_push (.inl 2147483655) n_213_41
theorem t_213_39 : e_Sn 213 39 (e_un n_213_39) := u_pushT (s_bipush (n := (7)) hq_213 (by decide +kernel) rfl ⟨by decide +kernel, by decide +kernel⟩ : e_Sn 213 39 (o_push (.inl 2147483655) 41)) t_213_41
noncomputable def n_213_38 : e_Y := u_old (o_dup 39) n_213_39
theorem t_213_38 : e_Sn 213 38 (e_un n_213_38) := u_oldT (s_dup hq_213 (by decide +kernel) rfl : e_Sn 213 38 (o_dup 39)) t_213_39 e_cg_dup
noncomputable def n_213_37 : e_Y := u_old (o_ast 2 e_okL 38) n_213_38
theorem t_213_37 : e_Sn 213 37 (e_un n_213_37) := u_oldT (s_last hq_213 (by decide +kernel) rfl : e_Sn 213 37 (o_ast 2 e_okL 38)) t_213_38 (e_cg_ast 2 e_okL)
noncomputable def n_213_36 : e_Y := u_push (e_L 9223372036854775809) n_213_37
theorem t_213_36 : e_Sn 213 36 (e_un n_213_36) := u_pushT (s_lconst (n := 1) hq_213 (by decide +kernel) rfl ⟨by decide +kernel, by decide +kernel⟩ : e_Sn 213 36 (o_push (e_L 9223372036854775809) 37)) t_213_37
noncomputable def n_213_34 : e_Y := u_push (.inl 2147483654) n_213_36
theorem t_213_34 : e_Sn 213 34 (e_un n_213_34) := u_pushT (s_bipush (n := (6)) hq_213 (by decide +kernel) rfl ⟨by decide +kernel, by decide +kernel⟩ : e_Sn 213 34 (o_push (.inl 2147483654) 36)) t_213_36
noncomputable def n_213_33 : e_Y := u_old (o_dup 34) n_213_34
theorem t_213_33 : e_Sn 213 33 (e_un n_213_33) := u_oldT (s_dup hq_213 (by decide +kernel) rfl : e_Sn 213 33 (o_dup 34)) t_213_34 e_cg_dup
noncomputable def n_213_32 : e_Y := u_old (o_ast 2 e_okL 33) n_213_33
theorem t_213_32 : e_Sn 213 32 (e_un n_213_32) := u_oldT (s_last hq_213 (by decide +kernel) rfl : e_Sn 213 32 (o_ast 2 e_okL 33)) t_213_33 (e_cg_ast 2 e_okL)
noncomputable def n_213_31 : e_Y := u_push (e_L 9223372036854775809) n_213_32
theorem t_213_31 : e_Sn 213 31 (e_un n_213_31) := u_pushT (s_lconst (n := 1) hq_213 (by decide +kernel) rfl ⟨by decide +kernel, by decide +kernel⟩ : e_Sn 213 31 (o_push (e_L 9223372036854775809) 32)) t_213_32
noncomputable def n_213_30 : e_Y := u_push (.inl 2147483653) n_213_31
theorem t_213_30 : e_Sn 213 30 (e_un n_213_30) := u_pushT (s_iconst (n := (5)) hq_213 (by decide +kernel) rfl ⟨by decide +kernel, by decide +kernel⟩ : e_Sn 213 30 (o_push (.inl 2147483653) 31)) t_213_31
noncomputable def n_213_29 : e_Y := u_old (o_dup 30) n_213_30
theorem t_213_29 : e_Sn 213 29 (e_un n_213_29) := u_oldT (s_dup hq_213 (by decide +kernel) rfl : e_Sn 213 29 (o_dup 30)) t_213_30 e_cg_dup
noncomputable def n_213_28 : e_Y := u_old (o_ast 2 e_okL 29) n_213_29
theorem t_213_28 : e_Sn 213 28 (e_un n_213_28) := u_oldT (s_last hq_213 (by decide +kernel) rfl : e_Sn 213 28 (o_ast 2 e_okL 29)) t_213_29 (e_cg_ast 2 e_okL)
noncomputable def n_213_27 : e_Y := u_push (e_L 9223372036854775808) n_213_28
theorem t_213_27 : e_Sn 213 27 (e_un n_213_27) := u_pushT (s_lconst (n := 0) hq_213 (by decide +kernel) rfl ⟨by decide +kernel, by decide +kernel⟩ : e_Sn 213 27 (o_push (e_L 9223372036854775808) 28)) t_213_28
noncomputable def n_213_26 : e_Y := u_push (.inl 2147483652) n_213_27
theorem t_213_26 : e_Sn 213 26 (e_un n_213_26) := u_pushT (s_iconst (n := (4)) hq_213 (by decide +kernel) rfl ⟨by decide +kernel, by decide +kernel⟩ : e_Sn 213 26 (o_push (.inl 2147483652) 27)) t_213_27
noncomputable def n_213_25 : e_Y := u_old (o_dup 26) n_213_26
theorem t_213_25 : e_Sn 213 25 (e_un n_213_25) := u_oldT (s_dup hq_213 (by decide +kernel) rfl : e_Sn 213 25 (o_dup 26)) t_213_26 e_cg_dup
noncomputable def n_213_24 : e_Y := u_old (o_ast 2 e_okL 25) n_213_25
theorem t_213_24 : e_Sn 213 24 (e_un n_213_24) := u_oldT (s_last hq_213 (by decide +kernel) rfl : e_Sn 213 24 (o_ast 2 e_okL 25)) t_213_25 (e_cg_ast 2 e_okL)
noncomputable def n_213_23 : e_Y := u_push (e_L 9223372036854775809) n_213_24
theorem t_213_23 : e_Sn 213 23 (e_un n_213_23) := u_pushT (s_lconst (n := 1) hq_213 (by decide +kernel) rfl ⟨by decide +kernel, by decide +kernel⟩ : e_Sn 213 23 (o_push (e_L 9223372036854775809) 24)) t_213_24
noncomputable def n_213_22 : e_Y := u_push (.inl 2147483651) n_213_23
theorem t_213_22 : e_Sn 213 22 (e_un n_213_22) := u_pushT (s_iconst (n := (3)) hq_213 (by decide +kernel) rfl ⟨by decide +kernel, by decide +kernel⟩ : e_Sn 213 22 (o_push (.inl 2147483651) 23)) t_213_23
noncomputable def n_213_21 : e_Y := u_old (o_dup 22) n_213_22
theorem t_213_21 : e_Sn 213 21 (e_un n_213_21) := u_oldT (s_dup hq_213 (by decide +kernel) rfl : e_Sn 213 21 (o_dup 22)) t_213_22 e_cg_dup
noncomputable def n_213_20 : e_Y := u_old (o_ast 2 e_okL 21) n_213_21
theorem t_213_20 : e_Sn 213 20 (e_un n_213_20) := u_oldT (s_last hq_213 (by decide +kernel) rfl : e_Sn 213 20 (o_ast 2 e_okL 21)) t_213_21 (e_cg_ast 2 e_okL)
noncomputable def n_213_19 : e_Y := u_push (e_L 9223372036854775808) n_213_20
theorem t_213_19 : e_Sn 213 19 (e_un n_213_19) := u_pushT (s_lconst (n := 0) hq_213 (by decide +kernel) rfl ⟨by decide +kernel, by decide +kernel⟩ : e_Sn 213 19 (o_push (e_L 9223372036854775808) 20)) t_213_20
noncomputable def n_213_18 : e_Y := u_push (.inl 2147483650) n_213_19
theorem t_213_18 : e_Sn 213 18 (e_un n_213_18) := u_pushT (s_iconst (n := (2)) hq_213 (by decide +kernel) rfl ⟨by decide +kernel, by decide +kernel⟩ : e_Sn 213 18 (o_push (.inl 2147483650) 19)) t_213_19
noncomputable def n_213_17 : e_Y := u_old (o_dup 18) n_213_18
theorem t_213_17 : e_Sn 213 17 (e_un n_213_17) := u_oldT (s_dup hq_213 (by decide +kernel) rfl : e_Sn 213 17 (o_dup 18)) t_213_18 e_cg_dup
noncomputable def n_213_16 : e_Y := u_old (o_ast 2 e_okL 17) n_213_17
theorem t_213_16 : e_Sn 213 16 (e_un n_213_16) := u_oldT (s_last hq_213 (by decide +kernel) rfl : e_Sn 213 16 (o_ast 2 e_okL 17)) t_213_17 (e_cg_ast 2 e_okL)
noncomputable def n_213_15 : e_Y := u_push (e_L 9223372036854775809) n_213_16
theorem t_213_15 : e_Sn 213 15 (e_un n_213_15) := u_pushT (s_lconst (n := 1) hq_213 (by decide +kernel) rfl ⟨by decide +kernel, by decide +kernel⟩ : e_Sn 213 15 (o_push (e_L 9223372036854775809) 16)) t_213_16
noncomputable def n_213_14 : e_Y := u_push (.inl 2147483649) n_213_15
theorem t_213_14 : e_Sn 213 14 (e_un n_213_14) := u_pushT (s_iconst (n := (1)) hq_213 (by decide +kernel) rfl ⟨by decide +kernel, by decide +kernel⟩ : e_Sn 213 14 (o_push (.inl 2147483649) 15)) t_213_15
noncomputable def n_213_13 : e_Y := u_old (o_dup 14) n_213_14
theorem t_213_13 : e_Sn 213 13 (e_un n_213_13) := u_oldT (s_dup hq_213 (by decide +kernel) rfl : e_Sn 213 13 (o_dup 14)) t_213_14 e_cg_dup
noncomputable def n_213_12 : e_Y := u_old (o_ast 2 e_okL 13) n_213_13
theorem t_213_12 : e_Sn 213 12 (e_un n_213_12) := u_oldT (s_last hq_213 (by decide +kernel) rfl : e_Sn 213 12 (o_ast 2 e_okL 13)) t_213_13 (e_cg_ast 2 e_okL)
noncomputable def n_213_11 : e_Y := u_push (e_L 9223372036854775809) n_213_12
theorem t_213_11 : e_Sn 213 11 (e_un n_213_11) := u_pushT (s_lconst (n := 1) hq_213 (by decide +kernel) rfl ⟨by decide +kernel, by decide +kernel⟩ : e_Sn 213 11 (o_push (e_L 9223372036854775809) 12)) t_213_12
noncomputable def n_213_10 : e_Y := u_push (.inl 2147483648) n_213_11
theorem t_213_10 : e_Sn 213 10 (e_un n_213_10) := u_pushT (s_iconst (n := (0)) hq_213 (by decide +kernel) rfl ⟨by decide +kernel, by decide +kernel⟩ : e_Sn 213 10 (o_push (.inl 2147483648) 11)) t_213_11
noncomputable def n_213_9 : e_Y := u_old (o_dup 10) n_213_10
theorem t_213_9 : e_Sn 213 9 (e_un n_213_9) := u_oldT (s_dup hq_213 (by decide +kernel) rfl : e_Sn 213 9 (o_dup 10)) t_213_10 e_cg_dup
noncomputable def n_213_7 : e_Y := u_tab (o_newa 2 (e_L 9223372036854775808) 9)
theorem t_213_7 : e_Sn 213 7 (e_un n_213_7) := u_tabT (s_newJ (List.mem_of_getElem? (i := 279) (by decide +kernel)) hq_213 (by decide +kernel) rfl : e_Sn 213 7 (o_newa 2 (e_L 9223372036854775808) 9))
noncomputable def n_213_5 : e_Y := u_push (.inl 2147483660) n_213_7
theorem t_213_5 : e_Sn 213 5 (e_un n_213_5) := u_pushT (s_bipush (n := (12)) hq_213 (by decide +kernel) rfl ⟨by decide +kernel, by decide +kernel⟩ : e_Sn 213 5 (o_push (.inl 2147483660) 7)) t_213_7
noncomputable def n_213_4 : e_Y := u_ld f_okA f_l0 n_213_5
theorem t_213_4 : e_Sn 213 4 (e_un n_213_4) := u_ldAT f_l0_eq (s_aload (i := .aload_n 0) (len := 1) hq_213 (by decide +kernel) rfl (.inr ⟨0, rfl, rfl, rfl⟩) : e_Sn 213 4 (o_load e_okR 0 5)) t_213_5
noncomputable def n_213_1 : e_Y := u_tab (o_oinit 4)
theorem t_213_1 : e_Sn 213 1 (e_un n_213_1) := u_tabT (s_oinit (idx := 3) hq_213 ho_213 (List.mem_of_getElem? (i := 1786) (by decide +kernel)) (List.mem_of_getElem? (i := 190) (by decide +kernel)) (List.mem_of_getElem? (i := 191) (by decide +kernel)) (by decide +kernel) rfl : e_Sn 213 1 (o_oinit 4))
noncomputable def n_213_0 : e_Y := u_ld f_okA f_l0 n_213_1
theorem t_213_0 : e_Sn 213 0 (e_un n_213_0) := u_ldAT f_l0_eq (s_aload (i := .aload_n 0) (len := 1) hq_213 (by decide +kernel) rfl (.inr ⟨0, rfl, rfl, rfl⟩) : e_Sn 213 0 (o_load e_okR 0 1)) t_213_1
noncomputable def e_tb_213 : e_X := (e_br 74 (e_br 9 (e_br 4 (e_lf 0 (e_un n_213_0)) (e_lf 4 (e_un n_213_4))) (e_br 70 (e_lf 9 (e_un n_213_9)) (e_lf 70 (e_un n_213_70)))) (e_br 90 (e_br 83 (e_lf 74 (e_un n_213_74)) (e_lf 83 (e_un n_213_83))) (e_br 114 (e_lf 90 (e_un n_213_90)) (e_br 135 (e_lf 114 (e_un n_213_114)) (e_lf 135 (e_un n_213_135))))))
theorem e_tk_213 : e_Tb 213 e_tb_213 := (e_brT (e_brT (e_brT (e_lfT t_213_0) (e_lfT t_213_4)) (e_brT (e_lfT t_213_9) (e_lfT t_213_70))) (e_brT (e_brT (e_lfT t_213_74) (e_lfT t_213_83)) (e_brT (e_lfT t_213_90) (e_brT (e_lfT t_213_114) (e_lfT t_213_135)))))
theorem hq_240 : (e_ml[240]?).map (·.2.1) = some prog_52_method_120_code := rfl
theorem ho_240 : (e_ml[240]?).map (·.1.cls) = some "java/util/Arrays" := rfl
theorem hr_240 : (e_ml[240]?).map (·.2.2.2) = some (some (.array (.object "java/lang/Object"))) := rfl
noncomputable def n_240_39 : e_Y := u_retA
theorem t_240_39 : e_Sn 240 39 (e_un n_240_39) := u_retAT (s_aret (.inr ⟨_, rfl⟩) hq_240 hr_240 (by decide +kernel) : e_Sn 240 39 (o_ret e_okR))
noncomputable def n_240_38 : e_Y := u_ld f_okA f_l3 n_240_39
theorem t_240_38 : e_Sn 240 38 (e_un n_240_38) := u_ldAT f_l3_eq (s_aload (i := .aload_n 3) (len := 1) hq_240 (by decide +kernel) rfl (.inr ⟨3, rfl, rfl, rfl⟩) : e_Sn 240 38 (o_load e_okR 3 39)) t_240_39
noncomputable def n_240_35 : e_Y := u_tab (o_copyB 38)
theorem t_240_35 : e_Sn 240 35 (e_un n_240_35) := u_tabT (s_copyB (index := 150) rfl (List.mem_of_getElem? (i := 3172) (by decide +kernel)) hq_240 ho_240 (List.mem_of_getElem? (i := 1887) (by decide +kernel)) (List.mem_of_getElem? (i := 764) (by decide +kernel)) (List.mem_of_getElem? (i := 763) (by decide +kernel)) (List.mem_of_getElem? (i := 159) (by decide +kernel)) (by decide +kernel) rfl : e_Sn 240 35 (o_copyB 38))
noncomputable def n_240_32 : e_Y := u_tab (o_mmin 35)
theorem t_240_32 : e_Sn 240 32 (e_un n_240_32) := u_tabT (s_mmin (index := 304) hq_240 ho_240 (List.mem_of_getElem? (i := 1886) (by decide +kernel)) (List.mem_of_getElem? (i := 425) (by decide +kernel)) (List.mem_of_getElem? (i := 142) (by decide +kernel)) (List.mem_of_getElem? (i := 426) (by decide +kernel)) (by decide +kernel) rfl : e_Sn 240 32 (o_mmin 35))
noncomputable def n_240_31 : e_Y := u_ld f_okI f_l1 n_240_32
theorem t_240_31 : e_Sn 240 31 (e_un n_240_31) := u_ldIT f_l1_eq (s_iload (i := .iload_n 1) (len := 1) hq_240 (by decide +kernel) rfl (.inr ⟨1, rfl, rfl, rfl⟩) : e_Sn 240 31 (o_load e_okI 1 32)) t_240_32
noncomputable def n_240_30 : e_Y := u_old (o_alen e_fcs 31) n_240_31
theorem t_240_30 : e_Sn 240 30 (e_un n_240_30) := u_oldT (s_alen hq_240 (by decide +kernel) rfl : e_Sn 240 30 (o_alen e_fcs 31)) t_240_31 (e_cg_alen e_fcs)
noncomputable def n_240_29 : e_Y := u_ld f_okA f_l0 n_240_30
theorem t_240_29 : e_Sn 240 29 (e_un n_240_29) := u_ldAT f_l0_eq (s_aload (i := .aload_n 0) (len := 1) hq_240 (by decide +kernel) rfl (.inr ⟨0, rfl, rfl, rfl⟩) : e_Sn 240 29 (o_load e_okR 0 30)) t_240_30
noncomputable def n_240_28 : e_Y := u_push (.inl 2147483648) n_240_29
theorem t_240_28 : e_Sn 240 28 (e_un n_240_28) := u_pushT (s_iconst (n := (0)) hq_240 (by decide +kernel) rfl ⟨by decide +kernel, by decide +kernel⟩ : e_Sn 240 28 (o_push (.inl 2147483648) 29)) t_240_29
noncomputable def n_240_27 : e_Y := u_ld f_okA f_l3 n_240_28
theorem t_240_27 : e_Sn 240 27 (e_un n_240_27) := u_ldAT f_l3_eq (s_aload (i := .aload_n 3) (len := 1) hq_240 (by decide +kernel) rfl (.inr ⟨3, rfl, rfl, rfl⟩) : e_Sn 240 27 (o_load e_okR 3 28)) t_240_28
noncomputable def n_240_26 : e_Y := u_push (.inl 2147483648) n_240_27
theorem t_240_26 : e_Sn 240 26 (e_un n_240_26) := u_pushT (s_iconst (n := (0)) hq_240 (by decide +kernel) rfl ⟨by decide +kernel, by decide +kernel⟩ : e_Sn 240 26 (o_push (.inl 2147483648) 27)) t_240_27
noncomputable def n_240_25 : e_Y := u_ld f_okA f_l0 n_240_26
theorem t_240_25 : e_Sn 240 25 (e_un n_240_25) := u_ldAT f_l0_eq (s_aload (i := .aload_n 0) (len := 1) hq_240 (by decide +kernel) rfl (.inr ⟨0, rfl, rfl, rfl⟩) : e_Sn 240 25 (o_load e_okR 0 26)) t_240_26
noncomputable def n_240_24 : e_Y := u_st f_okA f_s3 n_240_25
theorem t_240_24 : e_Sn 240 24 (e_un n_240_24) := u_stAT (fun _ _ _ => f_s3_eq) (s_astore (i := .astore_n 3) (len := 1) hq_240 (by decide +kernel) rfl (.inr ⟨3, rfl, rfl, rfl⟩) : e_Sn 240 24 (o_store e_okR 3 25)) t_240_25
noncomputable def n_240_10 : e_Y := n_240_24
theorem t_240_10 : e_Sn 240 10 (e_un n_240_10) := u_gotoT (s_goto (off := (14)) hq_240 (by decide +kernel) rfl : e_Sn 240 10 (o_goto 24)) t_240_24
noncomputable def n_240_7 : e_Y := u_tab (o_newa 3 e_N 10)
theorem t_240_7 : e_Sn 240 7 (e_un n_240_7) := u_tabT (s_newR (tc := 0) (index := 2) (E := "java/lang/Object") rfl ho_240 (List.mem_of_getElem? (i := 1885) (by decide +kernel)) (fun s h => h _ (List.mem_filter.mpr ⟨(List.mem_of_getElem? (i := 1884) (by decide +kernel)), rfl⟩)) hq_240 (by decide +kernel) rfl : e_Sn 240 7 (o_newa 3 e_N 10))
noncomputable def n_240_6 : e_Y := u_ld f_okI f_l1 n_240_7
theorem t_240_6 : e_Sn 240 6 (e_un n_240_6) := u_ldIT f_l1_eq (s_iload (i := .iload_n 1) (len := 1) hq_240 (by decide +kernel) rfl (.inr ⟨1, rfl, rfl, rfl⟩) : e_Sn 240 6 (o_load e_okI 1 7)) t_240_7
noncomputable def n_240_3 : e_Y := u_tab (o_acmp 6 13)
theorem t_240_3 : e_Sn 240 3 (e_un n_240_3) := u_tabT (s_acmpne (off := (10)) hq_240 (by decide +kernel) rfl rfl : e_Sn 240 3 (o_acmp 6 13))
noncomputable def n_240_1 : e_Y := u_push (e_B 261) n_240_3
theorem t_240_1 : e_Sn 240 1 (e_un n_240_1) := u_pushT (s_ldcM (index := 110) hq_240 ho_240 (List.mem_of_getElem? (i := 1883) (by decide +kernel)) (by decide +kernel) rfl : e_Sn 240 1 (o_push (e_B 261) 3)) t_240_3
noncomputable def n_240_0 : e_Y := u_ld f_okA f_l2 n_240_1
theorem t_240_0 : e_Sn 240 0 (e_un n_240_0) := u_ldAT f_l2_eq (s_aload (i := .aload_n 2) (len := 1) hq_240 (by decide +kernel) rfl (.inr ⟨2, rfl, rfl, rfl⟩) : e_Sn 240 0 (o_load e_okR 2 1)) t_240_1
noncomputable def e_tb_240 : e_X := (e_br 10 (e_br 6 (e_lf 0 (e_un n_240_0)) (e_lf 6 (e_un n_240_6))) (e_br 35 (e_lf 10 (e_un n_240_10)) (e_br 38 (e_lf 35 (e_un n_240_35)) (e_lf 38 (e_un n_240_38)))))
theorem e_tk_240 : e_Tb 240 e_tb_240 := (e_brT (e_brT (e_lfT t_240_0) (e_lfT t_240_6)) (e_brT (e_lfT t_240_10) (e_brT (e_lfT t_240_35) (e_lfT t_240_38))))
theorem hq_239 : (e_ml[239]?).map (·.2.1) = some prog_52_method_119_code := rfl
theorem ho_239 : (e_ml[239]?).map (·.1.cls) = some "java/util/Arrays" := rfl
theorem hr_239 : (e_ml[239]?).map (·.2.2.2) = some (some (.array (.object "java/lang/Object"))) := rfl
noncomputable def n_239_9 : e_Y := u_retA
theorem t_239_9 : e_Sn 239 9 (e_un n_239_9) := u_retAT (s_aret (.inr ⟨_, rfl⟩) hq_239 hr_239 (by decide +kernel) : e_Sn 239 9 (o_ret e_okR))
noncomputable def n_239_6 : e_Y := u_callS 240 4 23 3 n_240_0 n_239_9
theorem t_239_6 : e_Sn 239 6 (e_un n_239_6) := u_callST rfl (s_callS (index := 300) hq_239 ho_239 hy_240 hp_240 hc_240 hi_240 hd_240 (List.mem_of_getElem? (i := 1880) (by decide +kernel)) hs_240 (by decide +kernel) rfl : e_Sn 239 6 (o_callS 240 4 3 9)) t_240_0 t_239_9
noncomputable def n_239_3 : e_Y := u_tab (o_getC 6)
theorem t_239_3 : e_Sn 239 3 (e_un n_239_3) := u_tabT (s_getC (index := 86) rfl hq_239 ho_239 (List.mem_of_getElem? (i := 1847) (by decide +kernel)) (List.mem_of_getElem? (i := 3201) (by decide +kernel)) (List.mem_of_getElem? (i := 3200) (by decide +kernel)) (List.mem_of_getElem? (i := 1848) (by decide +kernel)) (List.mem_of_getElem? (i := 1879) (by decide +kernel)) (by decide +kernel) rfl : e_Sn 239 3 (o_getC 6))
noncomputable def n_239_2 : e_Y := u_ld f_okA f_l0 n_239_3
theorem t_239_2 : e_Sn 239 2 (e_un n_239_2) := u_ldAT f_l0_eq (s_aload (i := .aload_n 0) (len := 1) hq_239 (by decide +kernel) rfl (.inr ⟨0, rfl, rfl, rfl⟩) : e_Sn 239 2 (o_load e_okR 0 3)) t_239_3
noncomputable def n_239_1 : e_Y := u_ld f_okI f_l1 n_239_2
theorem t_239_1 : e_Sn 239 1 (e_un n_239_1) := u_ldIT f_l1_eq (s_iload (i := .iload_n 1) (len := 1) hq_239 (by decide +kernel) rfl (.inr ⟨1, rfl, rfl, rfl⟩) : e_Sn 239 1 (o_load e_okI 1 2)) t_239_2
noncomputable def n_239_0 : e_Y := u_ld f_okA f_l0 n_239_1
theorem t_239_0 : e_Sn 239 0 (e_un n_239_0) := u_ldAT f_l0_eq (s_aload (i := .aload_n 0) (len := 1) hq_239 (by decide +kernel) rfl (.inr ⟨0, rfl, rfl, rfl⟩) : e_Sn 239 0 (o_load e_okR 0 1)) t_239_1
noncomputable def e_tb_239 : e_X := (e_br 6 (e_lf 0 (e_un n_239_0)) (e_lf 6 (e_un n_239_6)))
theorem e_tk_239 : e_Tb 239 e_tb_239 := (e_brT (e_lfT t_239_0) (e_lfT t_239_6))
theorem hq_242 : (e_ml[242]?).map (·.2.1) = some prog_59_method_27_code := rfl
theorem ho_242 : (e_ml[242]?).map (·.1.cls) = some "jdk/internal/util/ArraysSupport" := rfl
theorem hr_242 : (e_ml[242]?).map (·.2.2.2) = some (some .int) := rfl
noncomputable def n_242_20 : e_Y := u_retI
theorem t_242_20 : e_Sn 242 20 (e_un n_242_20) := u_retIT (s_iret hq_242 hr_242 (by decide +kernel) : e_Sn 242 20 (o_ret e_okI))
noncomputable def n_242_19 : e_Y := u_ld f_okI f_l3 n_242_20
theorem t_242_19 : e_Sn 242 19 (e_un n_242_19) := u_ldIT f_l3_eq (s_iload (i := .iload_n 3) (len := 1) hq_242 (by decide +kernel) rfl (.inr ⟨3, rfl, rfl, rfl⟩) : e_Sn 242 19 (o_load e_okI 3 20)) t_242_20
noncomputable def n_242_16 : e_Y := u_jmp y_le (u_old2 (o_cgt 21 19) 21 (u_at 21) n_242_19) (u_at 21) n_242_19
theorem t_242_16 : e_Sn 242 16 (e_un n_242_16) := u_cgtT rfl (s_cgt (off := (5)) hq_242 (by decide +kernel) rfl rfl : e_Sn 242 16 (o_cgt 21 19)) u_atT t_242_19
noncomputable def n_242_14 : e_Y := u_push (e_I 4294967287) n_242_16
theorem t_242_14 : e_Sn 242 14 (e_un n_242_14) := u_pushT (s_ldc (index := 200) (v := (2147483639)) hq_242 ho_242 (List.mem_of_getElem? (i := 1840) (by decide +kernel)) (by decide +kernel) rfl ⟨by decide +kernel, by decide +kernel⟩ : e_Sn 242 14 (o_push (e_I 4294967287) 16)) t_242_16
noncomputable def n_242_13 : e_Y := u_ld f_okI f_l3 n_242_14
theorem t_242_13 : e_Sn 242 13 (e_un n_242_13) := u_ldIT f_l3_eq (s_iload (i := .iload_n 3) (len := 1) hq_242 (by decide +kernel) rfl (.inr ⟨3, rfl, rfl, rfl⟩) : e_Sn 242 13 (o_load e_okI 3 14)) t_242_14
noncomputable def n_242_10 : e_Y := u_jmp y_ge (u_old2 (o_clt 13 21) 13 n_242_13 (u_at 21)) n_242_13 (u_at 21)
theorem t_242_10 : e_Sn 242 10 (e_un n_242_10) := u_cltT rfl (s_cge (off := (11)) hq_242 (by decide +kernel) rfl rfl : e_Sn 242 10 (o_clt 13 21)) t_242_13 u_atT
noncomputable def n_242_9 : e_Y := u_ld f_okI f_l3 n_242_10
theorem t_242_9 : e_Sn 242 9 (e_un n_242_9) := u_ldIT f_l3_eq (s_iload (i := .iload_n 3) (len := 1) hq_242 (by decide +kernel) rfl (.inr ⟨3, rfl, rfl, rfl⟩) : e_Sn 242 9 (o_load e_okI 3 10)) t_242_10
noncomputable def n_242_8 : e_Y := u_push (.inl 2147483648) n_242_9
theorem t_242_8 : e_Sn 242 8 (e_un n_242_8) := u_pushT (s_iconst (n := (0)) hq_242 (by decide +kernel) rfl ⟨by decide +kernel, by decide +kernel⟩ : e_Sn 242 8 (o_push (.inl 2147483648) 9)) t_242_9
noncomputable def n_242_7 : e_Y := u_st f_okI f_s3 n_242_8
theorem t_242_7 : e_Sn 242 7 (e_un n_242_7) := u_stIT (fun _ _ _ => f_s3_eq) (s_istore (i := .istore_n 3) (len := 1) hq_242 (by decide +kernel) rfl (.inr ⟨3, rfl, rfl, rfl⟩) : e_Sn 242 7 (o_store e_okI 3 8)) t_242_8
noncomputable def n_242_6 : e_Y := u_bin a_iadd (u_old (o_iadd 7) n_242_7) n_242_7
theorem t_242_6 : e_Sn 242 6 (e_un n_242_6) := u_iaddT (s_iadd hq_242 (by decide +kernel) rfl : e_Sn 242 6 (o_iadd 7)) t_242_7
noncomputable def n_242_3 : e_Y := u_tab (o_mmax 6)
theorem t_242_3 : e_Sn 242 3 (e_un n_242_3) := u_tabT (s_mmax (index := 194) hq_242 ho_242 (List.mem_of_getElem? (i := 1839) (by decide +kernel)) (List.mem_of_getElem? (i := 229) (by decide +kernel)) (List.mem_of_getElem? (i := 142) (by decide +kernel)) (List.mem_of_getElem? (i := 230) (by decide +kernel)) (by decide +kernel) rfl : e_Sn 242 3 (o_mmax 6))
noncomputable def n_242_2 : e_Y := u_ld f_okI f_l2 n_242_3
theorem t_242_2 : e_Sn 242 2 (e_un n_242_2) := u_ldIT f_l2_eq (s_iload (i := .iload_n 2) (len := 1) hq_242 (by decide +kernel) rfl (.inr ⟨2, rfl, rfl, rfl⟩) : e_Sn 242 2 (o_load e_okI 2 3)) t_242_3
noncomputable def n_242_1 : e_Y := u_ld f_okI f_l1 n_242_2
theorem t_242_1 : e_Sn 242 1 (e_un n_242_1) := u_ldIT f_l1_eq (s_iload (i := .iload_n 1) (len := 1) hq_242 (by decide +kernel) rfl (.inr ⟨1, rfl, rfl, rfl⟩) : e_Sn 242 1 (o_load e_okI 1 2)) t_242_2
noncomputable def n_242_0 : e_Y := u_ld f_okI f_l0 n_242_1
theorem t_242_0 : e_Sn 242 0 (e_un n_242_0) := u_ldIT f_l0_eq (s_iload (i := .iload_n 0) (len := 1) hq_242 (by decide +kernel) rfl (.inr ⟨0, rfl, rfl, rfl⟩) : e_Sn 242 0 (o_load e_okI 0 1)) t_242_1
noncomputable def e_tb_242 : e_X := (e_br 6 (e_lf 0 (e_un n_242_0)) (e_lf 6 (e_un n_242_6)))
theorem e_tk_242 : e_Tb 242 e_tb_242 := (e_brT (e_lfT t_242_0) (e_lfT t_242_6))
theorem hq_231 : (e_ml[231]?).map (·.2.1) = some prog_50_method_6_code := rfl
theorem ho_231 : (e_ml[231]?).map (·.1.cls) = some "java/util/ArrayList" := rfl
theorem hr_231 : (e_ml[231]?).map (·.2.2.2) = some (some (.array (.object "java/lang/Object"))) := rfl
noncomputable def n_231_59 : e_Y := u_retA
theorem t_231_59 : e_Sn 231 59 (e_un n_231_59) := u_retAT (s_aret (.inr ⟨_, rfl⟩) hq_231 hr_231 (by decide +kernel) : e_Sn 231 59 (o_ret e_okR))
noncomputable def n_231_56 : e_Y := u_old (o_putf (e_f1 19 0) e_okR 59) n_231_59
theorem t_231_56 : e_Sn 231 56 (e_un n_231_56) := u_oldT (s_putf (ty0 := ey_19) (ok := e_okR) (C := er_19) (T := et_19) (N := 3) (ref := "java/util/ArrayList") (index := 9) (ci := 19) (k := 0) hq_231 ho_231 ⟨rfl, by decide, ei_19, (List.mem_of_getElem? (i := 1764) (by decide +kernel)), .inl rfl⟩ eo_19 en_19 e_oksA (.inl rfl) (by decide +kernel) rfl : e_Sn 231 56 (o_putf (e_f1 19 0) e_okR 59)) t_231_59 (e_cg_putf (e_f1 19 0) e_okR)
noncomputable def n_231_55 : e_Y := u_old (o_dup_x1 56) n_231_56
theorem t_231_55 : e_Sn 231 55 (e_un n_231_55) := u_oldT (s_dup_x1 hq_231 (by decide +kernel) rfl : e_Sn 231 55 (o_dup_x1 56)) t_231_56 e_cg_dup_x1
noncomputable def n_231_52 : e_Y := u_tab (o_newa 3 e_N 55)
theorem t_231_52 : e_Sn 231 52 (e_un n_231_52) := u_tabT (s_newR (tc := 0) (index := 7) (E := "java/lang/Object") rfl ho_231 (List.mem_of_getElem? (i := 1889) (by decide +kernel)) (fun s h => h _ (List.mem_filter.mpr ⟨(List.mem_of_getElem? (i := 1884) (by decide +kernel)), rfl⟩)) hq_231 (by decide +kernel) rfl : e_Sn 231 52 (o_newa 3 e_N 55))
noncomputable def n_231_49 : e_Y := u_tab (o_mmax 52)
theorem t_231_49 : e_Sn 231 49 (e_un n_231_49) := u_tabT (s_mmax (index := 79) hq_231 ho_231 (List.mem_of_getElem? (i := 1888) (by decide +kernel)) (List.mem_of_getElem? (i := 229) (by decide +kernel)) (List.mem_of_getElem? (i := 142) (by decide +kernel)) (List.mem_of_getElem? (i := 230) (by decide +kernel)) (by decide +kernel) rfl : e_Sn 231 49 (o_mmax 52))
noncomputable def n_231_48 : e_Y := u_ld f_okI f_l1 n_231_49
theorem t_231_48 : e_Sn 231 48 (e_un n_231_48) := u_ldIT f_l1_eq (s_iload (i := .iload_n 1) (len := 1) hq_231 (by decide +kernel) rfl (.inr ⟨1, rfl, rfl, rfl⟩) : e_Sn 231 48 (o_load e_okI 1 49)) t_231_49
noncomputable def n_231_46 : e_Y := u_push (.inl 2147483658) n_231_48
theorem t_231_46 : e_Sn 231 46 (e_un n_231_46) := u_pushT (s_bipush (n := (10)) hq_231 (by decide +kernel) rfl ⟨by decide +kernel, by decide +kernel⟩ : e_Sn 231 46 (o_push (.inl 2147483658) 48)) t_231_48
noncomputable def n_231_45 : e_Y := u_ld f_okA f_l0 n_231_46
theorem t_231_45 : e_Sn 231 45 (e_un n_231_45) := u_ldAT f_l0_eq (s_aload (i := .aload_n 0) (len := 1) hq_231 (by decide +kernel) rfl (.inr ⟨0, rfl, rfl, rfl⟩) : e_Sn 231 45 (o_load e_okR 0 46)) t_231_46
noncomputable def n_231_44 : e_Y := u_retA
theorem t_231_44 : e_Sn 231 44 (e_un n_231_44) := u_retAT (s_aret (.inr ⟨_, rfl⟩) hq_231 hr_231 (by decide +kernel) : e_Sn 231 44 (o_ret e_okR))
noncomputable def n_231_41 : e_Y := u_old (o_putf (e_f1 19 0) e_okR 44) n_231_44
theorem t_231_41 : e_Sn 231 41 (e_un n_231_41) := u_oldT (s_putf (ty0 := ey_19) (ok := e_okR) (C := er_19) (T := et_19) (N := 3) (ref := "java/util/ArrayList") (index := 9) (ci := 19) (k := 0) hq_231 ho_231 ⟨rfl, by decide, ei_19, (List.mem_of_getElem? (i := 1764) (by decide +kernel)), .inl rfl⟩ eo_19 en_19 e_oksA (.inl rfl) (by decide +kernel) rfl : e_Sn 231 41 (o_putf (e_f1 19 0) e_okR 44)) t_231_44 (e_cg_putf (e_f1 19 0) e_okR)
noncomputable def n_231_40 : e_Y := u_old (o_dup_x1 41) n_231_41
theorem t_231_40 : e_Sn 231 40 (e_un n_231_40) := u_oldT (s_dup_x1 hq_231 (by decide +kernel) rfl : e_Sn 231 40 (o_dup_x1 41)) t_231_41 e_cg_dup_x1
noncomputable def n_231_37 : e_Y := u_callS 239 2 21 2 n_239_0 n_231_40
theorem t_231_37 : e_Sn 231 37 (e_un n_231_37) := u_callST rfl (s_callS (index := 66) hq_231 ho_231 hy_239 hp_239 hc_239 hi_239 hd_239 (List.mem_of_getElem? (i := 1844) (by decide +kernel)) hs_239 (by decide +kernel) rfl : e_Sn 231 37 (o_callS 239 2 2 40)) t_239_0 t_231_40
noncomputable def n_231_36 : e_Y := u_ld f_okI f_l3 n_231_37
theorem t_231_36 : e_Sn 231 36 (e_un n_231_36) := u_ldIT f_l3_eq (s_iload (i := .iload_n 3) (len := 1) hq_231 (by decide +kernel) rfl (.inr ⟨3, rfl, rfl, rfl⟩) : e_Sn 231 36 (o_load e_okI 3 37)) t_231_37
noncomputable def n_231_33 : e_Y := u_getf 19 0 (u_old (o_getf (e_f1 19 0) 36) n_231_36) n_231_36
theorem t_231_33 : e_Sn 231 33 (e_un n_231_33) := u_getfT (s_getf (C := er_19) (T := et_19) (N := 3) (ref := "java/util/ArrayList") (index := 9) (ci := 19) (k := 0) hq_231 ho_231 ⟨rfl, by decide, ei_19, (List.mem_of_getElem? (i := 1764) (by decide +kernel)), .inl rfl⟩ (by decide +kernel) rfl : e_Sn 231 33 (o_getf (e_f1 19 0) 36)) t_231_36
noncomputable def n_231_32 : e_Y := u_ld f_okA f_l0 n_231_33
theorem t_231_32 : e_Sn 231 32 (e_un n_231_32) := u_ldAT f_l0_eq (s_aload (i := .aload_n 0) (len := 1) hq_231 (by decide +kernel) rfl (.inr ⟨0, rfl, rfl, rfl⟩) : e_Sn 231 32 (o_load e_okR 0 33)) t_231_33
noncomputable def n_231_31 : e_Y := u_ld f_okA f_l0 n_231_32
theorem t_231_31 : e_Sn 231 31 (e_un n_231_31) := u_ldAT f_l0_eq (s_aload (i := .aload_n 0) (len := 1) hq_231 (by decide +kernel) rfl (.inr ⟨0, rfl, rfl, rfl⟩) : e_Sn 231 31 (o_load e_okR 0 32)) t_231_32
noncomputable def n_231_30 : e_Y := u_st f_okI f_s3 n_231_31
theorem t_231_30 : e_Sn 231 30 (e_un n_231_30) := u_stIT (fun _ _ _ => f_s3_eq) (s_istore (i := .istore_n 3) (len := 1) hq_231 (by decide +kernel) rfl (.inr ⟨3, rfl, rfl, rfl⟩) : e_Sn 231 30 (o_store e_okI 3 31)) t_231_31
noncomputable def n_231_27 : e_Y := u_callS 242 4 23 3 n_242_0 n_231_30
theorem t_231_27 : e_Sn 231 27 (e_un n_231_27) := u_callST rfl (s_callS (index := 73) hq_231 ho_231 hy_242 hp_242 hc_242 hi_242 hd_242 (List.mem_of_getElem? (i := 1836) (by decide +kernel)) hs_242 (by decide +kernel) rfl : e_Sn 231 27 (o_callS 242 4 3 30)) t_242_0 t_231_30
noncomputable def n_231_26 : e_Y := u_old (o_ishr 27) n_231_27
theorem t_231_26 : e_Sn 231 26 (e_un n_231_26) := u_oldT (s_ishr hq_231 (by decide +kernel) rfl : e_Sn 231 26 (o_ishr 27)) t_231_27 e_cg_ishr
noncomputable def n_231_25 : e_Y := u_push (.inl 2147483649) n_231_26
theorem t_231_25 : e_Sn 231 25 (e_un n_231_25) := u_pushT (s_iconst (n := (1)) hq_231 (by decide +kernel) rfl ⟨by decide +kernel, by decide +kernel⟩ : e_Sn 231 25 (o_push (.inl 2147483649) 26)) t_231_26
noncomputable def n_231_24 : e_Y := u_ld f_okI f_l2 n_231_25
theorem t_231_24 : e_Sn 231 24 (e_un n_231_24) := u_ldIT f_l2_eq (s_iload (i := .iload_n 2) (len := 1) hq_231 (by decide +kernel) rfl (.inr ⟨2, rfl, rfl, rfl⟩) : e_Sn 231 24 (o_load e_okI 2 25)) t_231_25
noncomputable def n_231_23 : e_Y := u_bin a_isub (u_old (o_isub 24) n_231_24) n_231_24
theorem t_231_23 : e_Sn 231 23 (e_un n_231_23) := u_isubT (s_isub hq_231 (by decide +kernel) rfl : e_Sn 231 23 (o_isub 24)) t_231_24
noncomputable def n_231_22 : e_Y := u_ld f_okI f_l2 n_231_23
theorem t_231_22 : e_Sn 231 22 (e_un n_231_22) := u_ldIT f_l2_eq (s_iload (i := .iload_n 2) (len := 1) hq_231 (by decide +kernel) rfl (.inr ⟨2, rfl, rfl, rfl⟩) : e_Sn 231 22 (o_load e_okI 2 23)) t_231_23
noncomputable def n_231_21 : e_Y := u_ld f_okI f_l1 n_231_22
theorem t_231_21 : e_Sn 231 21 (e_un n_231_21) := u_ldIT f_l1_eq (s_iload (i := .iload_n 1) (len := 1) hq_231 (by decide +kernel) rfl (.inr ⟨1, rfl, rfl, rfl⟩) : e_Sn 231 21 (o_load e_okI 1 22)) t_231_22
noncomputable def n_231_20 : e_Y := u_ld f_okI f_l2 n_231_21
theorem t_231_20 : e_Sn 231 20 (e_un n_231_20) := u_ldIT f_l2_eq (s_iload (i := .iload_n 2) (len := 1) hq_231 (by decide +kernel) rfl (.inr ⟨2, rfl, rfl, rfl⟩) : e_Sn 231 20 (o_load e_okI 2 21)) t_231_21
noncomputable def n_231_17 : e_Y := u_tab (o_acmp 45 20)
theorem t_231_17 : e_Sn 231 17 (e_un n_231_17) := u_tabT (s_acmpeq (off := (28)) hq_231 (by decide +kernel) rfl rfl : e_Sn 231 17 (o_acmp 45 20))
noncomputable def n_231_14 : e_Y := u_push (e_B 3) n_231_17
theorem t_231_14 : e_Sn 231 14 (e_un n_231_14) := u_pushT (s_gets (k := 3) (index := 39) (C := "java/util/ArrayList") (f := "DEFAULTCAPACITY_EMPTY_ELEMENTDATA") (d := "[Ljava/lang/Object;") hq_231 ho_231 (List.mem_of_getElem? (i := 1762) (by decide +kernel)) (by simp [e_sv]) (by decide +kernel) rfl : e_Sn 231 14 (o_push (e_B 3) 17)) t_231_17
noncomputable def n_231_11 : e_Y := u_getf 19 0 (u_old (o_getf (e_f1 19 0) 14) n_231_14) n_231_14
theorem t_231_11 : e_Sn 231 11 (e_un n_231_11) := u_getfT (s_getf (C := er_19) (T := et_19) (N := 3) (ref := "java/util/ArrayList") (index := 9) (ci := 19) (k := 0) hq_231 ho_231 ⟨rfl, by decide, ei_19, (List.mem_of_getElem? (i := 1764) (by decide +kernel)), .inl rfl⟩ (by decide +kernel) rfl : e_Sn 231 11 (o_getf (e_f1 19 0) 14)) t_231_14
noncomputable def n_231_10 : e_Y := u_ld f_okA f_l0 n_231_11
theorem t_231_10 : e_Sn 231 10 (e_un n_231_10) := u_ldAT f_l0_eq (s_aload (i := .aload_n 0) (len := 1) hq_231 (by decide +kernel) rfl (.inr ⟨0, rfl, rfl, rfl⟩) : e_Sn 231 10 (o_load e_okR 0 11)) t_231_11
noncomputable def n_231_7 : e_Y := u_if y_le0 (u_old2 (o_ifgt 20 10) 20 n_231_20 n_231_10) n_231_20 n_231_10
theorem t_231_7 : e_Sn 231 7 (e_un n_231_7) := u_ifgtT rfl (s_ifgt (off := (13)) hq_231 (by decide +kernel) rfl rfl : e_Sn 231 7 (o_ifgt 20 10)) t_231_20 t_231_10
noncomputable def n_231_6 : e_Y := u_ld f_okI f_l2 n_231_7
theorem t_231_6 : e_Sn 231 6 (e_un n_231_6) := u_ldIT f_l2_eq (s_iload (i := .iload_n 2) (len := 1) hq_231 (by decide +kernel) rfl (.inr ⟨2, rfl, rfl, rfl⟩) : e_Sn 231 6 (o_load e_okI 2 7)) t_231_7
noncomputable def n_231_5 : e_Y := u_st f_okI f_s2 n_231_6
theorem t_231_5 : e_Sn 231 5 (e_un n_231_5) := u_stIT (fun _ _ _ => f_s2_eq) (s_istore (i := .istore_n 2) (len := 1) hq_231 (by decide +kernel) rfl (.inr ⟨2, rfl, rfl, rfl⟩) : e_Sn 231 5 (o_store e_okI 2 6)) t_231_6
noncomputable def n_231_4 : e_Y := u_old (o_alen e_fcs 5) n_231_5
theorem t_231_4 : e_Sn 231 4 (e_un n_231_4) := u_oldT (s_alen hq_231 (by decide +kernel) rfl : e_Sn 231 4 (o_alen e_fcs 5)) t_231_5 (e_cg_alen e_fcs)
noncomputable def n_231_1 : e_Y := u_getf 19 0 (u_old (o_getf (e_f1 19 0) 4) n_231_4) n_231_4
theorem t_231_1 : e_Sn 231 1 (e_un n_231_1) := u_getfT (s_getf (C := er_19) (T := et_19) (N := 3) (ref := "java/util/ArrayList") (index := 9) (ci := 19) (k := 0) hq_231 ho_231 ⟨rfl, by decide, ei_19, (List.mem_of_getElem? (i := 1764) (by decide +kernel)), .inl rfl⟩ (by decide +kernel) rfl : e_Sn 231 1 (o_getf (e_f1 19 0) 4)) t_231_4
noncomputable def n_231_0 : e_Y := u_ld f_okA f_l0 n_231_1
theorem t_231_0 : e_Sn 231 0 (e_un n_231_0) := u_ldAT f_l0_eq (s_aload (i := .aload_n 0) (len := 1) hq_231 (by decide +kernel) rfl (.inr ⟨0, rfl, rfl, rfl⟩) : e_Sn 231 0 (o_load e_okR 0 1)) t_231_1
noncomputable def e_tb_231 : e_X := (e_br 45 (e_br 20 (e_lf 0 (e_un n_231_0)) (e_lf 20 (e_un n_231_20))) (e_br 52 (e_lf 45 (e_un n_231_45)) (e_br 55 (e_lf 52 (e_un n_231_52)) (e_lf 55 (e_un n_231_55)))))
theorem e_tk_231 : e_Tb 231 e_tb_231 := (e_brT (e_brT (e_lfT t_231_0) (e_lfT t_231_20)) (e_brT (e_lfT t_231_45) (e_brT (e_lfT t_231_52) (e_lfT t_231_55))))
theorem hq_230 : (e_ml[230]?).map (·.2.1) = some prog_50_method_7_code := rfl
theorem ho_230 : (e_ml[230]?).map (·.1.cls) = some "java/util/ArrayList" := rfl
theorem hr_230 : (e_ml[230]?).map (·.2.2.2) = some (some (.array (.object "java/lang/Object"))) := rfl
noncomputable def n_230_10 : e_Y := u_retA
theorem t_230_10 : e_Sn 230 10 (e_un n_230_10) := u_retAT (s_aret (.inr ⟨_, rfl⟩) hq_230 hr_230 (by decide +kernel) : e_Sn 230 10 (o_ret e_okR))
noncomputable def n_230_7 : e_Y := u_callV 19 231 4 23 2 n_231_0 n_230_10
theorem t_230_7 : e_Sn 230 7 (e_un n_230_7) := u_callVT rfl (s_callV (ci := 19) (C := er_19) (T := et_19) (N := 3) (index := 69) hq_230 ho_230 hy_231 hp_231 hc_231 hi_231 hd_231 (List.mem_of_getElem? (i := 1832) (by decide +kernel)) hs_231 (List.mem_of_getElem? (i := 72) (by decide +kernel)) rfl (by decide +kernel) rfl : e_Sn 230 7 (o_callV (e_s1 19 231 4) 2 10)) t_231_0 t_230_10
noncomputable def n_230_6 : e_Y := u_bin a_iadd (u_old (o_iadd 7) n_230_7) n_230_7
theorem t_230_6 : e_Sn 230 6 (e_un n_230_6) := u_iaddT (s_iadd hq_230 (by decide +kernel) rfl : e_Sn 230 6 (o_iadd 7)) t_230_7
noncomputable def n_230_5 : e_Y := u_push (.inl 2147483649) n_230_6
theorem t_230_5 : e_Sn 230 5 (e_un n_230_5) := u_pushT (s_iconst (n := (1)) hq_230 (by decide +kernel) rfl ⟨by decide +kernel, by decide +kernel⟩ : e_Sn 230 5 (o_push (.inl 2147483649) 6)) t_230_6
noncomputable def n_230_2 : e_Y := u_getf 19 1 (u_old (o_getf (e_f1 19 1) 5) n_230_5) n_230_5
theorem t_230_2 : e_Sn 230 2 (e_un n_230_2) := u_getfT (s_getf (C := er_19) (T := et_19) (N := 3) (ref := "java/util/ArrayList") (index := 48) (ci := 19) (k := 1) hq_230 ho_230 ⟨rfl, by decide, ei_19, (List.mem_of_getElem? (i := 1767) (by decide +kernel)), .inl rfl⟩ (by decide +kernel) rfl : e_Sn 230 2 (o_getf (e_f1 19 1) 5)) t_230_5
noncomputable def n_230_1 : e_Y := u_ld f_okA f_l0 n_230_2
theorem t_230_1 : e_Sn 230 1 (e_un n_230_1) := u_ldAT f_l0_eq (s_aload (i := .aload_n 0) (len := 1) hq_230 (by decide +kernel) rfl (.inr ⟨0, rfl, rfl, rfl⟩) : e_Sn 230 1 (o_load e_okR 0 2)) t_230_2
noncomputable def n_230_0 : e_Y := u_ld f_okA f_l0 n_230_1
theorem t_230_0 : e_Sn 230 0 (e_un n_230_0) := u_ldAT f_l0_eq (s_aload (i := .aload_n 0) (len := 1) hq_230 (by decide +kernel) rfl (.inr ⟨0, rfl, rfl, rfl⟩) : e_Sn 230 0 (o_load e_okR 0 1)) t_230_1
noncomputable def e_tb_230 : e_X := (e_lf 0 (e_un n_230_0))
theorem e_tk_230 : e_Tb 230 e_tb_230 := (e_lfT t_230_0)
theorem hq_226 : (e_ml[226]?).map (·.2.1) = some prog_50_method_24_code := rfl
theorem ho_226 : (e_ml[226]?).map (·.1.cls) = some "java/util/ArrayList" := rfl
theorem hr_226 : (e_ml[226]?).map (·.2.2.2) = some none := rfl
noncomputable def n_226_22 : e_Y := u_tab (o_retv)
theorem t_226_22 : e_Sn 226 22 (e_un n_226_22) := u_tabT (s_vret hq_226 hr_226 (by decide +kernel) : e_Sn 226 22 (o_retv))
noncomputable def n_226_19 : e_Y := u_old (o_putf (e_f1 19 1) e_okI 22) n_226_22
theorem t_226_19 : e_Sn 226 19 (e_un n_226_19) := u_oldT (s_putf (ty0 := ey_19) (ok := e_okI) (C := er_19) (T := et_19) (N := 3) (ref := "java/util/ArrayList") (index := 48) (ci := 19) (k := 1) hq_226 ho_226 ⟨rfl, by decide, ei_19, (List.mem_of_getElem? (i := 1767) (by decide +kernel)), .inl rfl⟩ eo_19 en_19 e_oksI (.inl rfl) (by decide +kernel) rfl : e_Sn 226 19 (o_putf (e_f1 19 1) e_okI 22)) t_226_22 (e_cg_putf (e_f1 19 1) e_okI)
noncomputable def n_226_18 : e_Y := u_bin a_iadd (u_old (o_iadd 19) n_226_19) n_226_19
theorem t_226_18 : e_Sn 226 18 (e_un n_226_18) := u_iaddT (s_iadd hq_226 (by decide +kernel) rfl : e_Sn 226 18 (o_iadd 19)) t_226_19
noncomputable def n_226_17 : e_Y := u_push (.inl 2147483649) n_226_18
theorem t_226_17 : e_Sn 226 17 (e_un n_226_17) := u_pushT (s_iconst (n := (1)) hq_226 (by decide +kernel) rfl ⟨by decide +kernel, by decide +kernel⟩ : e_Sn 226 17 (o_push (.inl 2147483649) 18)) t_226_18
noncomputable def n_226_16 : e_Y := u_ld f_okI f_l3 n_226_17
theorem t_226_16 : e_Sn 226 16 (e_un n_226_16) := u_ldIT f_l3_eq (s_iload (i := .iload_n 3) (len := 1) hq_226 (by decide +kernel) rfl (.inr ⟨3, rfl, rfl, rfl⟩) : e_Sn 226 16 (o_load e_okI 3 17)) t_226_17
noncomputable def n_226_15 : e_Y := u_ld f_okA f_l0 n_226_16
theorem t_226_15 : e_Sn 226 15 (e_un n_226_15) := u_ldAT f_l0_eq (s_aload (i := .aload_n 0) (len := 1) hq_226 (by decide +kernel) rfl (.inr ⟨0, rfl, rfl, rfl⟩) : e_Sn 226 15 (o_load e_okR 0 16)) t_226_16
noncomputable def n_226_14 : e_Y := u_tab (o_astB 3 (fun k => Nat.beq k 14 || Nat.beq k 15 || Nat.beq k 100) 15)
theorem t_226_14 : e_Sn 226 14 (e_un n_226_14) := u_tabT (s_astB (tc := 0) (E := "java/lang/Object") (s_aast (tc := 0) (E := "java/lang/Object") hq_226 rfl (by decide) (fun k hk => by
  simp only [Bool.or_eq_true, Nat.beq_eq] at hk
  rcases hk with ((rfl | rfl) | rfl) <;> first | exact ⟨er_14, rfl, .inr (List.mem_of_getElem? (i := 3189) (by decide +kernel))⟩ | exact ⟨er_15, rfl, .inr (List.mem_of_getElem? (i := 3191) (by decide +kernel))⟩ | exact ⟨"[I", rfl, .inr (List.mem_of_getElem? (i := 3202) (by decide +kernel))⟩) (by decide +kernel) rfl) hq_226 rfl (List.mem_of_getElem? (i := 3172) (by decide +kernel)) (by decide +kernel) rfl : e_Sn 226 14 (o_astB 3 (fun k => Nat.beq k 14 || Nat.beq k 15 || Nat.beq k 100) 15))
noncomputable def n_226_13 : e_Y := u_ld f_okA f_l1 n_226_14
theorem t_226_13 : e_Sn 226 13 (e_un n_226_13) := u_ldAT f_l1_eq (s_aload (i := .aload_n 1) (len := 1) hq_226 (by decide +kernel) rfl (.inr ⟨1, rfl, rfl, rfl⟩) : e_Sn 226 13 (o_load e_okR 1 14)) t_226_14
noncomputable def n_226_12 : e_Y := u_ld f_okI f_l3 n_226_13
theorem t_226_12 : e_Sn 226 12 (e_un n_226_12) := u_ldIT f_l3_eq (s_iload (i := .iload_n 3) (len := 1) hq_226 (by decide +kernel) rfl (.inr ⟨3, rfl, rfl, rfl⟩) : e_Sn 226 12 (o_load e_okI 3 13)) t_226_13
noncomputable def n_226_11 : e_Y := u_ld f_okA f_l2 n_226_12
theorem t_226_11 : e_Sn 226 11 (e_un n_226_11) := u_ldAT f_l2_eq (s_aload (i := .aload_n 2) (len := 1) hq_226 (by decide +kernel) rfl (.inr ⟨2, rfl, rfl, rfl⟩) : e_Sn 226 11 (o_load e_okR 2 12)) t_226_12
noncomputable def n_226_10 : e_Y := u_st f_okA f_s2 n_226_11
theorem t_226_10 : e_Sn 226 10 (e_un n_226_10) := u_stAT (fun _ _ _ => f_s2_eq) (s_astore (i := .astore_n 2) (len := 1) hq_226 (by decide +kernel) rfl (.inr ⟨2, rfl, rfl, rfl⟩) : e_Sn 226 10 (o_store e_okR 2 11)) t_226_11
noncomputable def n_226_7 : e_Y := u_callV 19 230 1 20 1 n_230_0 n_226_10
theorem t_226_7 : e_Sn 226 7 (e_un n_226_7) := u_callVT rfl (s_callV (ci := 19) (C := er_19) (T := et_19) (N := 3) (index := 129) hq_226 ho_226 hy_230 hp_230 hc_230 hi_230 hd_230 (List.mem_of_getElem? (i := 1828) (by decide +kernel)) hs_230 (List.mem_of_getElem? (i := 71) (by decide +kernel)) rfl (by decide +kernel) rfl : e_Sn 226 7 (o_callV (e_s1 19 230 1) 1 10)) t_230_0 t_226_10
noncomputable def n_226_6 : e_Y := u_ld f_okA f_l0 n_226_7
theorem t_226_6 : e_Sn 226 6 (e_un n_226_6) := u_ldAT f_l0_eq (s_aload (i := .aload_n 0) (len := 1) hq_226 (by decide +kernel) rfl (.inr ⟨0, rfl, rfl, rfl⟩) : e_Sn 226 6 (o_load e_okR 0 7)) t_226_7
noncomputable def n_226_3 : e_Y := u_jmp y_ne (u_old2 (o_ceq 6 11) 6 n_226_6 n_226_11) n_226_6 n_226_11
theorem t_226_3 : e_Sn 226 3 (e_un n_226_3) := u_ceqT rfl (s_cne (off := (8)) hq_226 (by decide +kernel) rfl rfl : e_Sn 226 3 (o_ceq 6 11)) t_226_6 t_226_11
noncomputable def n_226_2 : e_Y := u_old (o_alen e_fcs 3) n_226_3
theorem t_226_2 : e_Sn 226 2 (e_un n_226_2) := u_oldT (s_alen hq_226 (by decide +kernel) rfl : e_Sn 226 2 (o_alen e_fcs 3)) t_226_3 (e_cg_alen e_fcs)
noncomputable def n_226_1 : e_Y := u_ld f_okA f_l2 n_226_2
theorem t_226_1 : e_Sn 226 1 (e_un n_226_1) := u_ldAT f_l2_eq (s_aload (i := .aload_n 2) (len := 1) hq_226 (by decide +kernel) rfl (.inr ⟨2, rfl, rfl, rfl⟩) : e_Sn 226 1 (o_load e_okR 2 2)) t_226_2
noncomputable def n_226_0 : e_Y := u_ld f_okI f_l3 n_226_1
theorem t_226_0 : e_Sn 226 0 (e_un n_226_0) := u_ldIT f_l3_eq (s_iload (i := .iload_n 3) (len := 1) hq_226 (by decide +kernel) rfl (.inr ⟨3, rfl, rfl, rfl⟩) : e_Sn 226 0 (o_load e_okI 3 1)) t_226_1
noncomputable def e_tb_226 : e_X := (e_br 15 (e_lf 0 (e_un n_226_0)) (e_lf 15 (e_un n_226_15)))
theorem e_tk_226 : e_Tb 226 e_tb_226 := (e_brT (e_lfT t_226_0) (e_lfT t_226_15))
theorem hq_225 : (e_ml[225]?).map (·.2.1) = some prog_50_method_25_code := rfl
theorem ho_225 : (e_ml[225]?).map (·.1.cls) = some "java/util/ArrayList" := rfl
theorem hr_225 : (e_ml[225]?).map (·.2.2.2) = some (some .boolean) := rfl
noncomputable def n_225_24 : e_Y := u_tab (o_ret e_okZ)
theorem t_225_24 : e_Sn 225 24 (e_un n_225_24) := u_tabT (s_zret hq_225 hr_225 (by decide +kernel) : e_Sn 225 24 (o_ret e_okZ))
noncomputable def n_225_23 : e_Y := u_push (.inl 2147483649) n_225_24
theorem t_225_23 : e_Sn 225 23 (e_un n_225_23) := u_pushT (s_iconst (n := (1)) hq_225 (by decide +kernel) rfl ⟨by decide +kernel, by decide +kernel⟩ : e_Sn 225 23 (o_push (.inl 2147483649) 24)) t_225_24
noncomputable def n_225_20 : e_Y := u_callV 19 226 4 23 4 n_226_0 n_225_23
theorem t_225_20 : e_Sn 225 20 (e_un n_225_20) := u_callVT rfl (s_callV (ci := 19) (C := er_19) (T := et_19) (N := 3) (index := 131) hq_225 ho_225 hy_226 hp_226 hc_226 hi_226 hd_226 (List.mem_of_getElem? (i := 1824) (by decide +kernel)) hs_226 (List.mem_of_getElem? (i := 70) (by decide +kernel)) rfl (by decide +kernel) rfl : e_Sn 225 20 (o_callV (e_s1 19 226 4) 4 23)) t_226_0 t_225_23
noncomputable def n_225_17 : e_Y := u_getf 19 1 (u_old (o_getf (e_f1 19 1) 20) n_225_20) n_225_20
theorem t_225_17 : e_Sn 225 17 (e_un n_225_17) := u_getfT (s_getf (C := er_19) (T := et_19) (N := 3) (ref := "java/util/ArrayList") (index := 48) (ci := 19) (k := 1) hq_225 ho_225 ⟨rfl, by decide, ei_19, (List.mem_of_getElem? (i := 1767) (by decide +kernel)), .inl rfl⟩ (by decide +kernel) rfl : e_Sn 225 17 (o_getf (e_f1 19 1) 20)) t_225_20
noncomputable def n_225_16 : e_Y := u_ld f_okA f_l0 n_225_17
theorem t_225_16 : e_Sn 225 16 (e_un n_225_16) := u_ldAT f_l0_eq (s_aload (i := .aload_n 0) (len := 1) hq_225 (by decide +kernel) rfl (.inr ⟨0, rfl, rfl, rfl⟩) : e_Sn 225 16 (o_load e_okR 0 17)) t_225_17
noncomputable def n_225_13 : e_Y := u_getf 19 0 (u_old (o_getf (e_f1 19 0) 16) n_225_16) n_225_16
theorem t_225_13 : e_Sn 225 13 (e_un n_225_13) := u_getfT (s_getf (C := er_19) (T := et_19) (N := 3) (ref := "java/util/ArrayList") (index := 9) (ci := 19) (k := 0) hq_225 ho_225 ⟨rfl, by decide, ei_19, (List.mem_of_getElem? (i := 1764) (by decide +kernel)), .inl rfl⟩ (by decide +kernel) rfl : e_Sn 225 13 (o_getf (e_f1 19 0) 16)) t_225_16
noncomputable def n_225_12 : e_Y := u_ld f_okA f_l0 n_225_13
theorem t_225_12 : e_Sn 225 12 (e_un n_225_12) := u_ldAT f_l0_eq (s_aload (i := .aload_n 0) (len := 1) hq_225 (by decide +kernel) rfl (.inr ⟨0, rfl, rfl, rfl⟩) : e_Sn 225 12 (o_load e_okR 0 13)) t_225_13
noncomputable def n_225_11 : e_Y := u_ld f_okA f_l1 n_225_12
theorem t_225_11 : e_Sn 225 11 (e_un n_225_11) := u_ldAT f_l1_eq (s_aload (i := .aload_n 1) (len := 1) hq_225 (by decide +kernel) rfl (.inr ⟨1, rfl, rfl, rfl⟩) : e_Sn 225 11 (o_load e_okR 1 12)) t_225_12
noncomputable def n_225_10 : e_Y := u_ld f_okA f_l0 n_225_11
theorem t_225_10 : e_Sn 225 10 (e_un n_225_10) := u_ldAT f_l0_eq (s_aload (i := .aload_n 0) (len := 1) hq_225 (by decide +kernel) rfl (.inr ⟨0, rfl, rfl, rfl⟩) : e_Sn 225 10 (o_load e_okR 0 11)) t_225_11
noncomputable def n_225_7 : e_Y := u_old (o_putf (e_f1 19 2) e_okI 10) n_225_10
theorem t_225_7 : e_Sn 225 7 (e_un n_225_7) := u_oldT (s_putf (ty0 := ey_19) (ok := e_okI) (C := er_19) (T := et_19) (N := 3) (ref := "java/util/ArrayList") (index := 63) (ci := 19) (k := 2) hq_225 ho_225 ⟨rfl, by decide, ei_19, (List.mem_of_getElem? (i := 1771) (by decide +kernel)), .inr (List.mem_of_getElem? (i := 1770) (by decide +kernel))⟩ eo_19 en_19 e_oksI (.inl rfl) (by decide +kernel) rfl : e_Sn 225 7 (o_putf (e_f1 19 2) e_okI 10)) t_225_10 (e_cg_putf (e_f1 19 2) e_okI)
noncomputable def n_225_6 : e_Y := u_bin a_iadd (u_old (o_iadd 7) n_225_7) n_225_7
theorem t_225_6 : e_Sn 225 6 (e_un n_225_6) := u_iaddT (s_iadd hq_225 (by decide +kernel) rfl : e_Sn 225 6 (o_iadd 7)) t_225_7
noncomputable def n_225_5 : e_Y := u_push (.inl 2147483649) n_225_6
theorem t_225_5 : e_Sn 225 5 (e_un n_225_5) := u_pushT (s_iconst (n := (1)) hq_225 (by decide +kernel) rfl ⟨by decide +kernel, by decide +kernel⟩ : e_Sn 225 5 (o_push (.inl 2147483649) 6)) t_225_6
noncomputable def n_225_2 : e_Y := u_getf 19 2 (u_old (o_getf (e_f1 19 2) 5) n_225_5) n_225_5
theorem t_225_2 : e_Sn 225 2 (e_un n_225_2) := u_getfT (s_getf (C := er_19) (T := et_19) (N := 3) (ref := "java/util/ArrayList") (index := 63) (ci := 19) (k := 2) hq_225 ho_225 ⟨rfl, by decide, ei_19, (List.mem_of_getElem? (i := 1771) (by decide +kernel)), .inr (List.mem_of_getElem? (i := 1770) (by decide +kernel))⟩ (by decide +kernel) rfl : e_Sn 225 2 (o_getf (e_f1 19 2) 5)) t_225_5
noncomputable def n_225_1 : e_Y := u_old (o_dup 2) n_225_2
theorem t_225_1 : e_Sn 225 1 (e_un n_225_1) := u_oldT (s_dup hq_225 (by decide +kernel) rfl : e_Sn 225 1 (o_dup 2)) t_225_2 e_cg_dup
noncomputable def n_225_0 : e_Y := u_ld f_okA f_l0 n_225_1
theorem t_225_0 : e_Sn 225 0 (e_un n_225_0) := u_ldAT f_l0_eq (s_aload (i := .aload_n 0) (len := 1) hq_225 (by decide +kernel) rfl (.inr ⟨0, rfl, rfl, rfl⟩) : e_Sn 225 0 (o_load e_okR 0 1)) t_225_1
noncomputable def e_tb_225 : e_X := (e_lf 0 (e_un n_225_0))
theorem e_tk_225 : e_Tb 225 e_tb_225 := (e_lfT t_225_0)
theorem hq_204 : (e_ml[204]?).map (·.2.1) = some prog_17_method_1_code := rfl
theorem ho_204 : (e_ml[204]?).map (·.1.cls) = some "PlateroomprinterModel$Machine" := rfl
theorem hr_204 : (e_ml[204]?).map (·.2.2.2) = some none := rfl
noncomputable def n_204_107 : e_Y := u_tab (o_retv)
theorem t_204_107 : e_Sn 204 107 (e_un n_204_107) := u_tabT (s_vret hq_204 hr_204 (by decide +kernel) : e_Sn 204 107 (o_retv))
noncomputable def n_204_104 : e_Y := (u_at 87)
theorem t_204_104 : e_Sn 204 104 (e_un n_204_104) := u_gotoT (s_goto (off := (-17)) hq_204 (by decide +kernel) rfl : e_Sn 204 104 (o_goto 87)) u_atT
noncomputable def n_204_101 : e_Y := u_inc f_l1 f_s1 1 n_204_104
theorem t_204_101 : e_Sn 204 101 (e_un n_204_101) := u_incT f_l1_eq (fun _ _ _ => f_s1_eq) (s_iinc (zz := (1)) hq_204 (by decide +kernel) rfl (by decide +kernel) ⟨by decide, by decide⟩ : e_Sn 204 101 (o_iinc 1 1 104)) t_204_104
noncomputable def n_204_100 : e_Y := u_pop n_204_101
theorem t_204_100 : e_Sn 204 100 (e_un n_204_100) := u_popT (s_pop hq_204 (by decide +kernel) rfl : e_Sn 204 100 (o_pop 101)) t_204_101
noncomputable def n_204_97 : e_Y := u_callV 19 225 2 21 2 n_225_0 n_204_100
theorem t_204_97 : e_Sn 204 97 (e_un n_204_97) := u_callVT rfl (s_callV (ci := 19) (C := er_19) (T := et_19) (N := 3) (index := 48) hq_204 ho_204 hy_225 hp_225 hc_225 hi_225 hd_225 (List.mem_of_getElem? (i := 1820) (by decide +kernel)) hs_225 (List.mem_of_getElem? (i := 1822) (by decide +kernel)) rfl (by decide +kernel) rfl : e_Sn 204 97 (o_callV (e_s1 19 225 2) 2 100)) t_225_0 t_204_100
noncomputable def n_204_96 : e_Y := u_push e_N n_204_97
theorem t_204_96 : e_Sn 204 96 (e_un n_204_96) := u_pushT (s_null hq_204 (by decide +kernel) rfl : e_Sn 204 96 (o_push e_N 97)) t_204_97
noncomputable def n_204_93 : e_Y := u_getf 13 4 (u_old (o_getf (e_f1 13 4) 96) n_204_96) n_204_96
theorem t_204_93 : e_Sn 204 93 (e_un n_204_93) := u_getfT (s_getf (C := er_13) (T := et_13) (N := 13) (ref := "PlateroomprinterModel$Machine") (index := 34) (ci := 13) (k := 4) hq_204 ho_204 ⟨rfl, by decide, ei_13, (List.mem_of_getElem? (i := 1902) (by decide +kernel)), .inl rfl⟩ (by decide +kernel) rfl : e_Sn 204 93 (o_getf (e_f1 13 4) 96)) t_204_96
noncomputable def n_204_92 : e_Y := u_ld f_okA f_l0 n_204_93
theorem t_204_92 : e_Sn 204 92 (e_un n_204_92) := u_ldAT f_l0_eq (s_aload (i := .aload_n 0) (len := 1) hq_204 (by decide +kernel) rfl (.inr ⟨0, rfl, rfl, rfl⟩) : e_Sn 204 92 (o_load e_okR 0 93)) t_204_93
noncomputable def n_204_89 : e_Y := u_jmp y_ge (u_old2 (o_clt 92 107) 92 n_204_92 n_204_107) n_204_92 n_204_107
theorem t_204_89 : e_Sn 204 89 (e_un n_204_89) := u_cltT rfl (s_cge (off := (18)) hq_204 (by decide +kernel) rfl rfl : e_Sn 204 89 (o_clt 92 107)) t_204_92 t_204_107
noncomputable def n_204_88 : e_Y := u_push (.inl 2147483653) n_204_89
theorem t_204_88 : e_Sn 204 88 (e_un n_204_88) := u_pushT (s_iconst (n := (5)) hq_204 (by decide +kernel) rfl ⟨by decide +kernel, by decide +kernel⟩ : e_Sn 204 88 (o_push (.inl 2147483653) 89)) t_204_89
noncomputable def n_204_87 : e_Y := u_ld f_okI f_l1 n_204_88
theorem t_204_87 : e_Sn 204 87 (e_un n_204_87) := u_ldIT f_l1_eq (s_iload (i := .iload_n 1) (len := 1) hq_204 (by decide +kernel) rfl (.inr ⟨1, rfl, rfl, rfl⟩) : e_Sn 204 87 (o_load e_okI 1 88)) t_204_88
noncomputable def n_204_86 : e_Y := u_st f_okI f_s1 n_204_87
theorem t_204_86 : e_Sn 204 86 (e_un n_204_86) := u_stIT (fun _ _ _ => f_s1_eq) (s_istore (i := .istore_n 1) (len := 1) hq_204 (by decide +kernel) rfl (.inr ⟨1, rfl, rfl, rfl⟩) : e_Sn 204 86 (o_store e_okI 1 87)) t_204_87
noncomputable def n_204_85 : e_Y := u_push (.inl 2147483648) n_204_86
theorem t_204_85 : e_Sn 204 85 (e_un n_204_85) := u_pushT (s_iconst (n := (0)) hq_204 (by decide +kernel) rfl ⟨by decide +kernel, by decide +kernel⟩ : e_Sn 204 85 (o_push (.inl 2147483648) 86)) t_204_86
noncomputable def n_204_82 : e_Y := u_old (o_putf (e_f1 13 12) e_okR 85) n_204_85
theorem t_204_82 : e_Sn 204 82 (e_un n_204_82) := u_oldT (s_putf (ty0 := ey_13) (ok := e_okR) (C := er_13) (T := et_13) (N := 13) (ref := "PlateroomprinterModel$Machine") (index := 44) (ci := 13) (k := 12) hq_204 ho_204 ⟨rfl, by decide, ei_13, (List.mem_of_getElem? (i := 1926) (by decide +kernel)), .inl rfl⟩ eo_13 en_13 e_oksA (.inl rfl) (by decide +kernel) rfl : e_Sn 204 82 (o_putf (e_f1 13 12) e_okR 85)) t_204_85 (e_cg_putf (e_f1 13 12) e_okR)
noncomputable def n_204_80 : e_Y := u_tab (o_newa 0 (e_I 2147483648) 82)
theorem t_204_80 : e_Sn 204 80 (e_un n_204_80) := u_tabT (s_newI (List.mem_of_getElem? (i := 215) (by decide +kernel)) hq_204 (by decide +kernel) rfl : e_Sn 204 80 (o_newa 0 (e_I 2147483648) 82))
noncomputable def n_204_78 : e_Y := u_push (.inl 2147483701) n_204_80
theorem t_204_78 : e_Sn 204 78 (e_un n_204_78) := u_pushT (s_bipush (n := (53)) hq_204 (by decide +kernel) rfl ⟨by decide +kernel, by decide +kernel⟩ : e_Sn 204 78 (o_push (.inl 2147483701) 80)) t_204_80
noncomputable def n_204_77 : e_Y := u_ld f_okA f_l0 n_204_78
theorem t_204_77 : e_Sn 204 77 (e_un n_204_77) := u_ldAT f_l0_eq (s_aload (i := .aload_n 0) (len := 1) hq_204 (by decide +kernel) rfl (.inr ⟨0, rfl, rfl, rfl⟩) : e_Sn 204 77 (o_load e_okR 0 78)) t_204_78
noncomputable def n_204_74 : e_Y := u_old (o_putf (e_f1 13 6) e_okR 77) n_204_77
theorem t_204_74 : e_Sn 204 74 (e_un n_204_74) := u_oldT (s_putf (ty0 := ey_13) (ok := e_okR) (C := er_13) (T := et_13) (N := 13) (ref := "PlateroomprinterModel$Machine") (index := 40) (ci := 13) (k := 6) hq_204 ho_204 ⟨rfl, by decide, ei_13, (List.mem_of_getElem? (i := 1908) (by decide +kernel)), .inl rfl⟩ eo_13 en_13 e_oksA (.inl rfl) (by decide +kernel) rfl : e_Sn 204 74 (o_putf (e_f1 13 6) e_okR 77)) t_204_77 (e_cg_putf (e_f1 13 6) e_okR)
noncomputable def n_204_72 : e_Y := u_tab (o_newa 1 (e_I 2147483648) 74)
theorem t_204_72 : e_Sn 204 72 (e_un n_204_72) := u_tabT (s_newZ (List.mem_of_getElem? (i := 1819) (by decide +kernel)) hq_204 (by decide +kernel) rfl : e_Sn 204 72 (o_newa 1 (e_I 2147483648) 74))
noncomputable def n_204_69 : e_Y := u_push (.inl 2147487744) n_204_72
theorem t_204_69 : e_Sn 204 69 (e_un n_204_69) := u_pushT (s_sipush (n := (4096)) hq_204 (by decide +kernel) rfl ⟨by decide +kernel, by decide +kernel⟩ : e_Sn 204 69 (o_push (.inl 2147487744) 72)) t_204_72
noncomputable def n_204_68 : e_Y := u_ld f_okA f_l0 n_204_69
theorem t_204_68 : e_Sn 204 68 (e_un n_204_68) := u_ldAT f_l0_eq (s_aload (i := .aload_n 0) (len := 1) hq_204 (by decide +kernel) rfl (.inr ⟨0, rfl, rfl, rfl⟩) : e_Sn 204 68 (o_load e_okR 0 69)) t_204_69
noncomputable def n_204_65 : e_Y := u_old (o_putf (e_f1 13 5) e_okR 68) n_204_68
theorem t_204_65 : e_Sn 204 65 (e_un n_204_65) := u_oldT (s_putf (ty0 := ey_13) (ok := e_okR) (C := er_13) (T := et_13) (N := 13) (ref := "PlateroomprinterModel$Machine") (index := 37) (ci := 13) (k := 5) hq_204 ho_204 ⟨rfl, by decide, ei_13, (List.mem_of_getElem? (i := 1905) (by decide +kernel)), .inl rfl⟩ eo_13 en_13 e_oksR (.inl rfl) (by decide +kernel) rfl : e_Sn 204 65 (o_putf (e_f1 13 5) e_okR 68)) t_204_68 (e_cg_putf (e_f1 13 5) e_okR)
noncomputable def n_204_62 : e_Y := u_tab (o_callI 224 1 1 65)
theorem t_204_62 : e_Sn 204 62 (e_un n_204_62) := u_tabT (s_callI (index := 11) hq_204 ho_204 hy_224 hp_224 hc_224 hi_224 hd_224 (List.mem_of_getElem? (i := 1752) (by decide +kernel)) rfl rfl hs_224 (by decide +kernel) rfl : e_Sn 204 62 (o_callI 224 1 1 65))
noncomputable def n_204_61 : e_Y := u_old (o_dup 62) n_204_62
theorem t_204_61 : e_Sn 204 61 (e_un n_204_61) := u_oldT (s_dup hq_204 (by decide +kernel) rfl : e_Sn 204 61 (o_dup 62)) t_204_62 e_cg_dup
noncomputable def n_204_58 : e_Y := u_tab (o_new 19 3 ef_19 61)
theorem t_204_58 : e_Sn 204 58 (e_un n_204_58) := u_tabT (s_new (index := 9) (ci := 19) (N := 3) (C := er_19) (T := et_19) (ty0 := ey_19) (fv := eg_19) hq_204 ho_204 rfl ei_19 eo_19 (List.mem_of_getElem? (i := 1750) (by decide +kernel)) (List.mem_of_getElem? (i := 1751) (by decide +kernel)) (List.mem_of_getElem? (i := 155) (by decide +kernel)) eh_19 rfl (e_newrel ek_19) (by decide +kernel) rfl : e_Sn 204 58 (o_new 19 3 ef_19 61))
noncomputable def n_204_57 : e_Y := u_ld f_okA f_l0 n_204_58
theorem t_204_57 : e_Sn 204 57 (e_un n_204_57) := u_ldAT f_l0_eq (s_aload (i := .aload_n 0) (len := 1) hq_204 (by decide +kernel) rfl (.inr ⟨0, rfl, rfl, rfl⟩) : e_Sn 204 57 (o_load e_okR 0 58)) t_204_58
noncomputable def n_204_54 : e_Y := u_old (o_putf (e_f1 13 4) e_okR 57) n_204_57
theorem t_204_54 : e_Sn 204 54 (e_un n_204_54) := u_oldT (s_putf (ty0 := ey_13) (ok := e_okR) (C := er_13) (T := et_13) (N := 13) (ref := "PlateroomprinterModel$Machine") (index := 34) (ci := 13) (k := 4) hq_204 ho_204 ⟨rfl, by decide, ei_13, (List.mem_of_getElem? (i := 1902) (by decide +kernel)), .inl rfl⟩ eo_13 en_13 e_oksR (.inl rfl) (by decide +kernel) rfl : e_Sn 204 54 (o_putf (e_f1 13 4) e_okR 57)) t_204_57 (e_cg_putf (e_f1 13 4) e_okR)
noncomputable def n_204_51 : e_Y := u_tab (o_callI 224 1 1 54)
theorem t_204_51 : e_Sn 204 51 (e_un n_204_51) := u_tabT (s_callI (index := 11) hq_204 ho_204 hy_224 hp_224 hc_224 hi_224 hd_224 (List.mem_of_getElem? (i := 1752) (by decide +kernel)) rfl rfl hs_224 (by decide +kernel) rfl : e_Sn 204 51 (o_callI 224 1 1 54))
noncomputable def n_204_50 : e_Y := u_old (o_dup 51) n_204_51
theorem t_204_50 : e_Sn 204 50 (e_un n_204_50) := u_oldT (s_dup hq_204 (by decide +kernel) rfl : e_Sn 204 50 (o_dup 51)) t_204_51 e_cg_dup
noncomputable def n_204_47 : e_Y := u_tab (o_new 19 3 ef_19 50)
theorem t_204_47 : e_Sn 204 47 (e_un n_204_47) := u_tabT (s_new (index := 9) (ci := 19) (N := 3) (C := er_19) (T := et_19) (ty0 := ey_19) (fv := eg_19) hq_204 ho_204 rfl ei_19 eo_19 (List.mem_of_getElem? (i := 1750) (by decide +kernel)) (List.mem_of_getElem? (i := 1751) (by decide +kernel)) (List.mem_of_getElem? (i := 155) (by decide +kernel)) eh_19 rfl (e_newrel ek_19) (by decide +kernel) rfl : e_Sn 204 47 (o_new 19 3 ef_19 50))
noncomputable def n_204_46 : e_Y := u_ld f_okA f_l0 n_204_47
theorem t_204_46 : e_Sn 204 46 (e_un n_204_46) := u_ldAT f_l0_eq (s_aload (i := .aload_n 0) (len := 1) hq_204 (by decide +kernel) rfl (.inr ⟨0, rfl, rfl, rfl⟩) : e_Sn 204 46 (o_load e_okR 0 47)) t_204_47
noncomputable def n_204_43 : e_Y := u_old (o_putf (e_f1 13 3) e_okR 46) n_204_46
theorem t_204_43 : e_Sn 204 43 (e_un n_204_43) := u_oldT (s_putf (ty0 := ey_13) (ok := e_okR) (C := er_13) (T := et_13) (N := 13) (ref := "PlateroomprinterModel$Machine") (index := 31) (ci := 13) (k := 3) hq_204 ho_204 ⟨rfl, by decide, ei_13, (List.mem_of_getElem? (i := 1899) (by decide +kernel)), .inl rfl⟩ eo_13 en_13 e_oksR (.inl rfl) (by decide +kernel) rfl : e_Sn 204 43 (o_putf (e_f1 13 3) e_okR 46)) t_204_46 (e_cg_putf (e_f1 13 3) e_okR)
noncomputable def n_204_40 : e_Y := u_tab (o_callI 224 1 1 43)
theorem t_204_40 : e_Sn 204 40 (e_un n_204_40) := u_tabT (s_callI (index := 11) hq_204 ho_204 hy_224 hp_224 hc_224 hi_224 hd_224 (List.mem_of_getElem? (i := 1752) (by decide +kernel)) rfl rfl hs_224 (by decide +kernel) rfl : e_Sn 204 40 (o_callI 224 1 1 43))
noncomputable def n_204_39 : e_Y := u_old (o_dup 40) n_204_40
theorem t_204_39 : e_Sn 204 39 (e_un n_204_39) := u_oldT (s_dup hq_204 (by decide +kernel) rfl : e_Sn 204 39 (o_dup 40)) t_204_40 e_cg_dup
noncomputable def n_204_36 : e_Y := u_tab (o_new 19 3 ef_19 39)
theorem t_204_36 : e_Sn 204 36 (e_un n_204_36) := u_tabT (s_new (index := 9) (ci := 19) (N := 3) (C := er_19) (T := et_19) (ty0 := ey_19) (fv := eg_19) hq_204 ho_204 rfl ei_19 eo_19 (List.mem_of_getElem? (i := 1750) (by decide +kernel)) (List.mem_of_getElem? (i := 1751) (by decide +kernel)) (List.mem_of_getElem? (i := 155) (by decide +kernel)) eh_19 rfl (e_newrel ek_19) (by decide +kernel) rfl : e_Sn 204 36 (o_new 19 3 ef_19 39))
noncomputable def n_204_35 : e_Y := u_ld f_okA f_l0 n_204_36
theorem t_204_35 : e_Sn 204 35 (e_un n_204_35) := u_ldAT f_l0_eq (s_aload (i := .aload_n 0) (len := 1) hq_204 (by decide +kernel) rfl (.inr ⟨0, rfl, rfl, rfl⟩) : e_Sn 204 35 (o_load e_okR 0 36)) t_204_36
noncomputable def n_204_32 : e_Y := u_old (o_putf (e_f1 13 2) e_okR 35) n_204_35
theorem t_204_32 : e_Sn 204 32 (e_un n_204_32) := u_oldT (s_putf (ty0 := ey_13) (ok := e_okR) (C := er_13) (T := et_13) (N := 13) (ref := "PlateroomprinterModel$Machine") (index := 27) (ci := 13) (k := 2) hq_204 ho_204 ⟨rfl, by decide, ei_13, (List.mem_of_getElem? (i := 1896) (by decide +kernel)), .inl rfl⟩ eo_13 en_13 e_oksR (.inl rfl) (by decide +kernel) rfl : e_Sn 204 32 (o_putf (e_f1 13 2) e_okR 35)) t_204_35 (e_cg_putf (e_f1 13 2) e_okR)
noncomputable def n_204_29 : e_Y := u_tab (o_callI 213 2 1 32)
theorem t_204_29 : e_Sn 204 29 (e_un n_204_29) := u_tabT (s_callI (index := 26) hq_204 ho_204 hy_213 hp_213 hc_213 hi_213 hd_213 (List.mem_of_getElem? (i := 1783) (by decide +kernel)) rfl rfl hs_213 (by decide +kernel) rfl : e_Sn 204 29 (o_callI 213 2 1 32))
noncomputable def n_204_28 : e_Y := u_old (o_dup 29) n_204_29
theorem t_204_28 : e_Sn 204 28 (e_un n_204_28) := u_oldT (s_dup hq_204 (by decide +kernel) rfl : e_Sn 204 28 (o_dup 29)) t_204_29 e_cg_dup
noncomputable def n_204_25 : e_Y := u_tab (o_new 17 6 ef_17 28)
theorem t_204_25 : e_Sn 204 25 (e_un n_204_25) := u_tabT (s_new (index := 24) (ci := 17) (N := 6) (C := er_17) (T := et_17) (ty0 := ey_17) (fv := eg_17) hq_204 ho_204 rfl ei_17 eo_17 (List.mem_of_getElem? (i := 1781) (by decide +kernel)) (List.mem_of_getElem? (i := 1782) (by decide +kernel)) (List.mem_of_getElem? (i := 156) (by decide +kernel)) eh_17 rfl (e_newrel ek_17) (by decide +kernel) rfl : e_Sn 204 25 (o_new 17 6 ef_17 28))
noncomputable def n_204_24 : e_Y := u_ld f_okA f_l0 n_204_25
theorem t_204_24 : e_Sn 204 24 (e_un n_204_24) := u_ldAT f_l0_eq (s_aload (i := .aload_n 0) (len := 1) hq_204 (by decide +kernel) rfl (.inr ⟨0, rfl, rfl, rfl⟩) : e_Sn 204 24 (o_load e_okR 0 25)) t_204_25
noncomputable def n_204_21 : e_Y := u_old (o_putf (e_f1 13 1) e_okR 24) n_204_24
theorem t_204_21 : e_Sn 204 21 (e_un n_204_21) := u_oldT (s_putf (ty0 := ey_13) (ok := e_okR) (C := er_13) (T := et_13) (N := 13) (ref := "PlateroomprinterModel$Machine") (index := 20) (ci := 13) (k := 1) hq_204 ho_204 ⟨rfl, by decide, ei_13, (List.mem_of_getElem? (i := 1893) (by decide +kernel)), .inl rfl⟩ eo_13 en_13 e_oksA (.inl rfl) (by decide +kernel) rfl : e_Sn 204 21 (o_putf (e_f1 13 1) e_okR 24)) t_204_24 (e_cg_putf (e_f1 13 1) e_okR)
noncomputable def n_204_18 : e_Y := u_tab (o_newa 6 e_N 21)
theorem t_204_18 : e_Sn 204 18 (e_un n_204_18) := u_tabT (s_newR (tc := 3) (index := 18) (E := "PlateroomprinterModel$Item") rfl ho_204 (List.mem_of_getElem? (i := 1779) (by decide +kernel)) (fun s h => h _ (List.mem_filter.mpr ⟨(List.mem_of_getElem? (i := 1780) (by decide +kernel)), rfl⟩)) hq_204 (by decide +kernel) rfl : e_Sn 204 18 (o_newa 6 e_N 21))
noncomputable def n_204_16 : e_Y := u_push (.inl 2147483658) n_204_18
theorem t_204_16 : e_Sn 204 16 (e_un n_204_16) := u_pushT (s_bipush (n := (10)) hq_204 (by decide +kernel) rfl ⟨by decide +kernel, by decide +kernel⟩ : e_Sn 204 16 (o_push (.inl 2147483658) 18)) t_204_18
noncomputable def n_204_15 : e_Y := u_ld f_okA f_l0 n_204_16
theorem t_204_15 : e_Sn 204 15 (e_un n_204_15) := u_ldAT f_l0_eq (s_aload (i := .aload_n 0) (len := 1) hq_204 (by decide +kernel) rfl (.inr ⟨0, rfl, rfl, rfl⟩) : e_Sn 204 15 (o_load e_okR 0 16)) t_204_16
noncomputable def n_204_12 : e_Y := u_old (o_putf (e_f1 13 0) e_okR 15) n_204_15
theorem t_204_12 : e_Sn 204 12 (e_un n_204_12) := u_oldT (s_putf (ty0 := ey_13) (ok := e_okR) (C := er_13) (T := et_13) (N := 13) (ref := "PlateroomprinterModel$Machine") (index := 12) (ci := 13) (k := 0) hq_204 ho_204 ⟨rfl, by decide, ei_13, (List.mem_of_getElem? (i := 1890) (by decide +kernel)), .inl rfl⟩ eo_13 en_13 e_oksR (.inl rfl) (by decide +kernel) rfl : e_Sn 204 12 (o_putf (e_f1 13 0) e_okR 15)) t_204_15 (e_cg_putf (e_f1 13 0) e_okR)
noncomputable def n_204_9 : e_Y := u_tab (o_callI 224 1 1 12)
theorem t_204_9 : e_Sn 204 9 (e_un n_204_9) := u_tabT (s_callI (index := 11) hq_204 ho_204 hy_224 hp_224 hc_224 hi_224 hd_224 (List.mem_of_getElem? (i := 1752) (by decide +kernel)) rfl rfl hs_224 (by decide +kernel) rfl : e_Sn 204 9 (o_callI 224 1 1 12))
noncomputable def n_204_8 : e_Y := u_old (o_dup 9) n_204_9
theorem t_204_8 : e_Sn 204 8 (e_un n_204_8) := u_oldT (s_dup hq_204 (by decide +kernel) rfl : e_Sn 204 8 (o_dup 9)) t_204_9 e_cg_dup
noncomputable def n_204_5 : e_Y := u_tab (o_new 19 3 ef_19 8)
theorem t_204_5 : e_Sn 204 5 (e_un n_204_5) := u_tabT (s_new (index := 9) (ci := 19) (N := 3) (C := er_19) (T := et_19) (ty0 := ey_19) (fv := eg_19) hq_204 ho_204 rfl ei_19 eo_19 (List.mem_of_getElem? (i := 1750) (by decide +kernel)) (List.mem_of_getElem? (i := 1751) (by decide +kernel)) (List.mem_of_getElem? (i := 155) (by decide +kernel)) eh_19 rfl (e_newrel ek_19) (by decide +kernel) rfl : e_Sn 204 5 (o_new 19 3 ef_19 8))
noncomputable def n_204_4 : e_Y := u_ld f_okA f_l0 n_204_5
theorem t_204_4 : e_Sn 204 4 (e_un n_204_4) := u_ldAT f_l0_eq (s_aload (i := .aload_n 0) (len := 1) hq_204 (by decide +kernel) rfl (.inr ⟨0, rfl, rfl, rfl⟩) : e_Sn 204 4 (o_load e_okR 0 5)) t_204_5
noncomputable def n_204_1 : e_Y := u_tab (o_oinit 4)
theorem t_204_1 : e_Sn 204 1 (e_un n_204_1) := u_tabT (s_oinit (idx := 3) hq_204 ho_204 (List.mem_of_getElem? (i := 1749) (by decide +kernel)) (List.mem_of_getElem? (i := 190) (by decide +kernel)) (List.mem_of_getElem? (i := 191) (by decide +kernel)) (by decide +kernel) rfl : e_Sn 204 1 (o_oinit 4))
noncomputable def n_204_0 : e_Y := u_ld f_okA f_l0 n_204_1
theorem t_204_0 : e_Sn 204 0 (e_un n_204_0) := u_ldAT f_l0_eq (s_aload (i := .aload_n 0) (len := 1) hq_204 (by decide +kernel) rfl (.inr ⟨0, rfl, rfl, rfl⟩) : e_Sn 204 0 (o_load e_okR 0 1)) t_204_1
noncomputable def e_tb_204 : e_X := (e_br 43 (e_br 21 (e_br 8 (e_br 4 (e_lf 0 (e_un n_204_0)) (e_lf 4 (e_un n_204_4))) (e_br 12 (e_lf 8 (e_un n_204_8)) (e_lf 12 (e_un n_204_12)))) (e_br 32 (e_br 28 (e_lf 21 (e_un n_204_21)) (e_lf 28 (e_un n_204_28))) (e_br 39 (e_lf 32 (e_un n_204_32)) (e_lf 39 (e_un n_204_39))))) (e_br 65 (e_br 54 (e_br 50 (e_lf 43 (e_un n_204_43)) (e_lf 50 (e_un n_204_50))) (e_br 61 (e_lf 54 (e_un n_204_54)) (e_lf 61 (e_un n_204_61)))) (e_br 82 (e_br 74 (e_lf 65 (e_un n_204_65)) (e_lf 74 (e_un n_204_74))) (e_br 87 (e_lf 82 (e_un n_204_82)) (e_lf 87 (e_un n_204_87))))))
theorem e_tk_204 : e_Tb 204 e_tb_204 := (e_brT (e_brT (e_brT (e_brT (e_lfT t_204_0) (e_lfT t_204_4)) (e_brT (e_lfT t_204_8) (e_lfT t_204_12))) (e_brT (e_brT (e_lfT t_204_21) (e_lfT t_204_28)) (e_brT (e_lfT t_204_32) (e_lfT t_204_39)))) (e_brT (e_brT (e_brT (e_lfT t_204_43) (e_lfT t_204_50)) (e_brT (e_lfT t_204_54) (e_lfT t_204_61))) (e_brT (e_brT (e_lfT t_204_65) (e_lfT t_204_74)) (e_brT (e_lfT t_204_82) (e_lfT t_204_87)))))
theorem hq_132 : (e_ml[132]?).map (·.2.1) = some prog_14_method_1_code := rfl
theorem ho_132 : (e_ml[132]?).map (·.1.cls) = some "PlateroomprinterModel" := rfl
theorem hr_132 : (e_ml[132]?).map (·.2.2.2) = some none := rfl
noncomputable def n_132_45 : e_Y := u_tab (o_retv)
theorem t_132_45 : e_Sn 132 45 (e_un n_132_45) := u_tabT (s_vret hq_132 hr_132 (by decide +kernel) : e_Sn 132 45 (o_retv))
noncomputable def n_132_42 : e_Y := u_old (o_putf (e_f1 12 3) e_okR 45) n_132_45
theorem t_132_42 : e_Sn 132 42 (e_un n_132_42) := u_oldT (s_putf (ty0 := ey_12) (ok := e_okR) (C := er_12) (T := et_12) (N := 5) (ref := "PlateroomprinterModel") (index := 23) (ci := 12) (k := 3) hq_132 ho_132 ⟨rfl, by decide, ei_12, (List.mem_of_getElem? (i := 1961) (by decide +kernel)), .inl rfl⟩ eo_12 en_12 e_oksA (.inr ⟨rfl, rfl, rfl⟩) (by decide +kernel) rfl : e_Sn 132 42 (o_putf (e_f1 12 3) e_okR 45)) t_132_45 (e_cg_putf (e_f1 12 3) e_okR)
noncomputable def n_132_41 : e_Y := u_old (o_ast 0 e_okI 42) n_132_42
theorem t_132_41 : e_Sn 132 41 (e_un n_132_41) := u_oldT (s_iast hq_132 (by decide +kernel) rfl : e_Sn 132 41 (o_ast 0 e_okI 42)) t_132_42 (e_cg_ast 0 e_okI)
noncomputable def n_132_40 : e_Y := u_push (.inl 2147483647) n_132_41
theorem t_132_40 : e_Sn 132 40 (e_un n_132_40) := u_pushT (s_iconst (n := (-1)) hq_132 (by decide +kernel) rfl ⟨by decide +kernel, by decide +kernel⟩ : e_Sn 132 40 (o_push (.inl 2147483647) 41)) t_132_41
noncomputable def n_132_39 : e_Y := u_push (.inl 2147483650) n_132_40
theorem t_132_39 : e_Sn 132 39 (e_un n_132_39) := u_pushT (s_iconst (n := (2)) hq_132 (by decide +kernel) rfl ⟨by decide +kernel, by decide +kernel⟩ : e_Sn 132 39 (o_push (.inl 2147483650) 40)) t_132_40
noncomputable def n_132_38 : e_Y := u_old (o_dup 39) n_132_39
theorem t_132_38 : e_Sn 132 38 (e_un n_132_38) := u_oldT (s_dup hq_132 (by decide +kernel) rfl : e_Sn 132 38 (o_dup 39)) t_132_39 e_cg_dup
noncomputable def n_132_37 : e_Y := u_old (o_ast 0 e_okI 38) n_132_38
theorem t_132_37 : e_Sn 132 37 (e_un n_132_37) := u_oldT (s_iast hq_132 (by decide +kernel) rfl : e_Sn 132 37 (o_ast 0 e_okI 38)) t_132_38 (e_cg_ast 0 e_okI)
noncomputable def n_132_36 : e_Y := u_push (.inl 2147483647) n_132_37
theorem t_132_36 : e_Sn 132 36 (e_un n_132_36) := u_pushT (s_iconst (n := (-1)) hq_132 (by decide +kernel) rfl ⟨by decide +kernel, by decide +kernel⟩ : e_Sn 132 36 (o_push (.inl 2147483647) 37)) t_132_37
noncomputable def n_132_35 : e_Y := u_push (.inl 2147483649) n_132_36
theorem t_132_35 : e_Sn 132 35 (e_un n_132_35) := u_pushT (s_iconst (n := (1)) hq_132 (by decide +kernel) rfl ⟨by decide +kernel, by decide +kernel⟩ : e_Sn 132 35 (o_push (.inl 2147483649) 36)) t_132_36
noncomputable def n_132_34 : e_Y := u_old (o_dup 35) n_132_35
theorem t_132_34 : e_Sn 132 34 (e_un n_132_34) := u_oldT (s_dup hq_132 (by decide +kernel) rfl : e_Sn 132 34 (o_dup 35)) t_132_35 e_cg_dup
noncomputable def n_132_33 : e_Y := u_old (o_ast 0 e_okI 34) n_132_34
theorem t_132_33 : e_Sn 132 33 (e_un n_132_33) := u_oldT (s_iast hq_132 (by decide +kernel) rfl : e_Sn 132 33 (o_ast 0 e_okI 34)) t_132_34 (e_cg_ast 0 e_okI)
noncomputable def n_132_32 : e_Y := u_push (.inl 2147483648) n_132_33
theorem t_132_32 : e_Sn 132 32 (e_un n_132_32) := u_pushT (s_iconst (n := (0)) hq_132 (by decide +kernel) rfl ⟨by decide +kernel, by decide +kernel⟩ : e_Sn 132 32 (o_push (.inl 2147483648) 33)) t_132_33
noncomputable def n_132_31 : e_Y := u_push (.inl 2147483648) n_132_32
theorem t_132_31 : e_Sn 132 31 (e_un n_132_31) := u_pushT (s_iconst (n := (0)) hq_132 (by decide +kernel) rfl ⟨by decide +kernel, by decide +kernel⟩ : e_Sn 132 31 (o_push (.inl 2147483648) 32)) t_132_32
noncomputable def n_132_30 : e_Y := u_old (o_dup 31) n_132_31
theorem t_132_30 : e_Sn 132 30 (e_un n_132_30) := u_oldT (s_dup hq_132 (by decide +kernel) rfl : e_Sn 132 30 (o_dup 31)) t_132_31 e_cg_dup
noncomputable def n_132_28 : e_Y := u_tab (o_newa 0 (e_I 2147483648) 30)
theorem t_132_28 : e_Sn 132 28 (e_un n_132_28) := u_tabT (s_newI (List.mem_of_getElem? (i := 215) (by decide +kernel)) hq_132 (by decide +kernel) rfl : e_Sn 132 28 (o_newa 0 (e_I 2147483648) 30))
noncomputable def n_132_27 : e_Y := u_push (.inl 2147483651) n_132_28
theorem t_132_27 : e_Sn 132 27 (e_un n_132_27) := u_pushT (s_iconst (n := (3)) hq_132 (by decide +kernel) rfl ⟨by decide +kernel, by decide +kernel⟩ : e_Sn 132 27 (o_push (.inl 2147483651) 28)) t_132_28
noncomputable def n_132_26 : e_Y := u_ld f_okA f_l0 n_132_27
theorem t_132_26 : e_Sn 132 26 (e_un n_132_26) := u_ldAT f_l0_eq (s_aload (i := .aload_n 0) (len := 1) hq_132 (by decide +kernel) rfl (.inr ⟨0, rfl, rfl, rfl⟩) : e_Sn 132 26 (o_load e_okR 0 27)) t_132_27
noncomputable def n_132_23 : e_Y := u_old (o_putf (e_f1 12 2) e_okR 26) n_132_26
theorem t_132_23 : e_Sn 132 23 (e_un n_132_23) := u_oldT (s_putf (ty0 := ey_12) (ok := e_okR) (C := er_12) (T := et_12) (N := 5) (ref := "PlateroomprinterModel") (index := 19) (ci := 12) (k := 2) hq_132 ho_132 ⟨rfl, by decide, ei_12, (List.mem_of_getElem? (i := 1960) (by decide +kernel)), .inl rfl⟩ eo_12 en_12 e_oksR (.inl rfl) (by decide +kernel) rfl : e_Sn 132 23 (o_putf (e_f1 12 2) e_okR 26)) t_132_26 (e_cg_putf (e_f1 12 2) e_okR)
noncomputable def n_132_20 : e_Y := u_tab (o_callI 224 1 1 23)
theorem t_132_20 : e_Sn 132 20 (e_un n_132_20) := u_tabT (s_callI (index := 18) hq_132 ho_132 hy_224 hp_224 hc_224 hi_224 hd_224 (List.mem_of_getElem? (i := 1957) (by decide +kernel)) rfl rfl hs_224 (by decide +kernel) rfl : e_Sn 132 20 (o_callI 224 1 1 23))
noncomputable def n_132_19 : e_Y := u_old (o_dup 20) n_132_20
theorem t_132_19 : e_Sn 132 19 (e_un n_132_19) := u_oldT (s_dup hq_132 (by decide +kernel) rfl : e_Sn 132 19 (o_dup 20)) t_132_20 e_cg_dup
noncomputable def n_132_16 : e_Y := u_tab (o_new 19 3 ef_19 19)
theorem t_132_16 : e_Sn 132 16 (e_un n_132_16) := u_tabT (s_new (index := 16) (ci := 19) (N := 3) (C := er_19) (T := et_19) (ty0 := ey_19) (fv := eg_19) hq_132 ho_132 rfl ei_19 eo_19 (List.mem_of_getElem? (i := 1956) (by decide +kernel)) (List.mem_of_getElem? (i := 1751) (by decide +kernel)) (List.mem_of_getElem? (i := 155) (by decide +kernel)) eh_19 rfl (e_newrel ek_19) (by decide +kernel) rfl : e_Sn 132 16 (o_new 19 3 ef_19 19))
noncomputable def n_132_15 : e_Y := u_ld f_okA f_l0 n_132_16
theorem t_132_15 : e_Sn 132 15 (e_un n_132_15) := u_ldAT f_l0_eq (s_aload (i := .aload_n 0) (len := 1) hq_132 (by decide +kernel) rfl (.inr ⟨0, rfl, rfl, rfl⟩) : e_Sn 132 15 (o_load e_okR 0 16)) t_132_16
noncomputable def n_132_12 : e_Y := u_old (o_putf (e_f1 12 1) e_okR 15) n_132_15
theorem t_132_12 : e_Sn 132 12 (e_un n_132_12) := u_oldT (s_putf (ty0 := ey_12) (ok := e_okR) (C := er_12) (T := et_12) (N := 5) (ref := "PlateroomprinterModel") (index := 10) (ci := 12) (k := 1) hq_132 ho_132 ⟨rfl, by decide, ei_12, (List.mem_of_getElem? (i := 1959) (by decide +kernel)), .inl rfl⟩ eo_12 en_12 e_oksR (.inl rfl) (by decide +kernel) rfl : e_Sn 132 12 (o_putf (e_f1 12 1) e_okR 15)) t_132_15 (e_cg_putf (e_f1 12 1) e_okR)
noncomputable def n_132_9 : e_Y := u_tab (o_callI 204 2 1 12)
theorem t_132_9 : e_Sn 132 9 (e_un n_132_9) := u_tabT (s_callI (index := 9) hq_132 ho_132 hy_204 hp_204 hc_204 hi_204 hd_204 (List.mem_of_getElem? (i := 1746) (by decide +kernel)) rfl rfl hs_204 (by decide +kernel) rfl : e_Sn 132 9 (o_callI 204 2 1 12))
noncomputable def n_132_8 : e_Y := u_old (o_dup 9) n_132_9
theorem t_132_8 : e_Sn 132 8 (e_un n_132_8) := u_oldT (s_dup hq_132 (by decide +kernel) rfl : e_Sn 132 8 (o_dup 9)) t_132_9 e_cg_dup
noncomputable def n_132_5 : e_Y := u_tab (o_new 13 13 ef_13 8)
theorem t_132_5 : e_Sn 132 5 (e_un n_132_5) := u_tabT (s_new (index := 7) (ci := 13) (N := 13) (C := er_13) (T := et_13) (ty0 := ey_13) (fv := eg_13) hq_132 ho_132 rfl ei_13 eo_13 (List.mem_of_getElem? (i := 1744) (by decide +kernel)) (List.mem_of_getElem? (i := 1745) (by decide +kernel)) (List.mem_of_getElem? (i := 152) (by decide +kernel)) eh_13 rfl (e_newrel ek_13) (by decide +kernel) rfl : e_Sn 132 5 (o_new 13 13 ef_13 8))
noncomputable def n_132_4 : e_Y := u_ld f_okA f_l0 n_132_5
theorem t_132_4 : e_Sn 132 4 (e_un n_132_4) := u_ldAT f_l0_eq (s_aload (i := .aload_n 0) (len := 1) hq_132 (by decide +kernel) rfl (.inr ⟨0, rfl, rfl, rfl⟩) : e_Sn 132 4 (o_load e_okR 0 5)) t_132_5
noncomputable def n_132_1 : e_Y := u_tab (o_oinit 4)
theorem t_132_1 : e_Sn 132 1 (e_un n_132_1) := u_tabT (s_oinit (idx := 1) hq_132 ho_132 (List.mem_of_getElem? (i := 1743) (by decide +kernel)) (List.mem_of_getElem? (i := 190) (by decide +kernel)) (List.mem_of_getElem? (i := 191) (by decide +kernel)) (by decide +kernel) rfl : e_Sn 132 1 (o_oinit 4))
noncomputable def n_132_0 : e_Y := u_ld f_okA f_l0 n_132_1
theorem t_132_0 : e_Sn 132 0 (e_un n_132_0) := u_ldAT f_l0_eq (s_aload (i := .aload_n 0) (len := 1) hq_132 (by decide +kernel) rfl (.inr ⟨0, rfl, rfl, rfl⟩) : e_Sn 132 0 (o_load e_okR 0 1)) t_132_1
noncomputable def e_tb_132 : e_X := (e_br 12 (e_br 4 (e_lf 0 (e_un n_132_0)) (e_br 8 (e_lf 4 (e_un n_132_4)) (e_lf 8 (e_un n_132_8)))) (e_br 23 (e_br 19 (e_lf 12 (e_un n_132_12)) (e_lf 19 (e_un n_132_19))) (e_br 30 (e_lf 23 (e_un n_132_23)) (e_lf 30 (e_un n_132_30)))))
theorem e_tk_132 : e_Tb 132 e_tb_132 := (e_brT (e_brT (e_lfT t_132_0) (e_brT (e_lfT t_132_4) (e_lfT t_132_8))) (e_brT (e_brT (e_lfT t_132_12) (e_lfT t_132_19)) (e_brT (e_lfT t_132_23) (e_lfT t_132_30))))
theorem hq_133 : (e_ml[133]?).map (·.2.1) = some prog_14_method_83_code := rfl
theorem ho_133 : (e_ml[133]?).map (·.1.cls) = some "PlateroomprinterModel" := rfl
theorem hr_133 : (e_ml[133]?).map (·.2.2.2) = some (some .long) := rfl
noncomputable def n_133_7 : e_Y := u_tab (o_ret e_okL)
theorem t_133_7 : e_Sn 133 7 (e_un n_133_7) := u_tabT (s_lret hq_133 hr_133 (by decide +kernel) : e_Sn 133 7 (o_ret e_okL))
noncomputable def n_133_6 : e_Y := u_old (o_ladd 7) n_133_7
theorem t_133_6 : e_Sn 133 6 (e_un n_133_6) := u_oldT (s_ladd hq_133 (by decide +kernel) rfl : e_Sn 133 6 (o_ladd 7)) t_133_7 e_cg_ladd
noncomputable def n_133_5 : e_Y := u_old (o_load e_okL 2 6) n_133_6
theorem t_133_5 : e_Sn 133 5 (e_un n_133_5) := u_oldT (s_lload (i := .lload_n 2) (len := 1) hq_133 (by decide +kernel) rfl (.inr ⟨2, rfl, rfl, rfl⟩) : e_Sn 133 5 (o_load e_okL 2 6)) t_133_6 e_congr_load
noncomputable def n_133_4 : e_Y := u_old (o_lmul 5) n_133_5
theorem t_133_4 : e_Sn 133 4 (e_un n_133_4) := u_oldT (s_lmul hq_133 (by decide +kernel) rfl : e_Sn 133 4 (o_lmul 5)) t_133_5 e_cg_lmul
noncomputable def n_133_1 : e_Y := u_push (e_L 9223372036854775839) n_133_4
theorem t_133_1 : e_Sn 133 1 (e_un n_133_1) := u_pushT (s_ldc2 (index := 286) (v := (31)) hq_133 ho_133 (List.mem_of_getElem? (i := 3009) (by decide +kernel)) (by decide +kernel) rfl ⟨by decide +kernel, by decide +kernel⟩ : e_Sn 133 1 (o_push (e_L 9223372036854775839) 4)) t_133_4
noncomputable def n_133_0 : e_Y := u_old (o_load e_okL 0 1) n_133_1
theorem t_133_0 : e_Sn 133 0 (e_un n_133_0) := u_oldT (s_lload (i := .lload_n 0) (len := 1) hq_133 (by decide +kernel) rfl (.inr ⟨0, rfl, rfl, rfl⟩) : e_Sn 133 0 (o_load e_okL 0 1)) t_133_1 e_congr_load
noncomputable def e_tb_133 : e_X := (e_lf 0 (e_un n_133_0))
theorem e_tk_133 : e_Tb 133 e_tb_133 := (e_lfT t_133_0)
theorem hq_183 : (e_ml[183]?).map (·.2.1) = some prog_14_method_15_code := rfl
theorem ho_183 : (e_ml[183]?).map (·.1.cls) = some "PlateroomprinterModel" := rfl
theorem hr_183 : (e_ml[183]?).map (·.2.2.2) = some (some .int) := rfl
noncomputable def n_183_123 : e_Y := u_retI
theorem t_183_123 : e_Sn 183 123 (e_un n_183_123) := u_retIT (s_iret hq_183 hr_183 (by decide +kernel) : e_Sn 183 123 (o_ret e_okI))
noncomputable def n_183_122 : e_Y := u_push (.inl 2147483648) n_183_123
theorem t_183_122 : e_Sn 183 122 (e_un n_183_122) := u_pushT (s_iconst (n := (0)) hq_183 (by decide +kernel) rfl ⟨by decide +kernel, by decide +kernel⟩ : e_Sn 183 122 (o_push (.inl 2147483648) 123)) t_183_123
noncomputable def n_183_119 : e_Y := n_183_123
theorem t_183_119 : e_Sn 183 119 (e_un n_183_119) := u_gotoT (s_goto (off := (4)) hq_183 (by decide +kernel) rfl : e_Sn 183 119 (o_goto 123)) t_183_123
noncomputable def n_183_118 : e_Y := u_push (.inl 2147483647) n_183_119
theorem t_183_118 : e_Sn 183 118 (e_un n_183_118) := u_pushT (s_iconst (n := (-1)) hq_183 (by decide +kernel) rfl ⟨by decide +kernel, by decide +kernel⟩ : e_Sn 183 118 (o_push (.inl 2147483647) 119)) t_183_119
noncomputable def n_183_111 : e_Y := u_jmp y_ge (u_old2 (o_clt 114 118) 114 (u_at 114) n_183_118) (u_at 114) n_183_118
theorem t_183_111 : e_Sn 183 111 (e_un n_183_111) := u_cltT rfl (s_cge (off := (7)) hq_183 (by decide +kernel) rfl rfl : e_Sn 183 111 (o_clt 114 118)) u_atT t_183_118
noncomputable def n_183_110 : e_Y := u_ald 0 (u_old (o_ald e_fcs 111) n_183_111) n_183_111
theorem t_183_110 : e_Sn 183 110 (e_un n_183_110) := u_aldT (s_iald hq_183 (by decide +kernel) rfl : e_Sn 183 110 (o_ald e_fcs 111)) t_183_111
noncomputable def n_183_109 : e_Y := u_push (.inl 2147483649) n_183_110
theorem t_183_109 : e_Sn 183 109 (e_un n_183_109) := u_pushT (s_iconst (n := (1)) hq_183 (by decide +kernel) rfl ⟨by decide +kernel, by decide +kernel⟩ : e_Sn 183 109 (o_push (.inl 2147483649) 110)) t_183_110
noncomputable def n_183_108 : e_Y := u_ld f_okA f_l1 n_183_109
theorem t_183_108 : e_Sn 183 108 (e_un n_183_108) := u_ldAT f_l1_eq (s_aload (i := .aload_n 1) (len := 1) hq_183 (by decide +kernel) rfl (.inr ⟨1, rfl, rfl, rfl⟩) : e_Sn 183 108 (o_load e_okR 1 109)) t_183_109
noncomputable def n_183_107 : e_Y := u_ald 0 (u_old (o_ald e_fcs 108) n_183_108) n_183_108
theorem t_183_107 : e_Sn 183 107 (e_un n_183_107) := u_aldT (s_iald hq_183 (by decide +kernel) rfl : e_Sn 183 107 (o_ald e_fcs 108)) t_183_108
noncomputable def n_183_106 : e_Y := u_push (.inl 2147483649) n_183_107
theorem t_183_106 : e_Sn 183 106 (e_un n_183_106) := u_pushT (s_iconst (n := (1)) hq_183 (by decide +kernel) rfl ⟨by decide +kernel, by decide +kernel⟩ : e_Sn 183 106 (o_push (.inl 2147483649) 107)) t_183_107
noncomputable def n_183_105 : e_Y := u_ld f_okA f_l0 n_183_106
theorem t_183_105 : e_Sn 183 105 (e_un n_183_105) := u_ldAT f_l0_eq (s_aload (i := .aload_n 0) (len := 1) hq_183 (by decide +kernel) rfl (.inr ⟨0, rfl, rfl, rfl⟩) : e_Sn 183 105 (o_load e_okR 0 106)) t_183_106
noncomputable def n_183_102 : e_Y := u_if y_ne0 (u_old2 (o_ifeq 122 105) 122 n_183_122 n_183_105) n_183_122 n_183_105
theorem t_183_102 : e_Sn 183 102 (e_un n_183_102) := u_ifeqT rfl (s_ifeq (off := (20)) hq_183 (by decide +kernel) rfl rfl : e_Sn 183 102 (o_ifeq 122 105)) t_183_122 t_183_105
noncomputable def n_183_100 : e_Y := u_ld f_okI f_l6 n_183_102
theorem t_183_100 : e_Sn 183 100 (e_un n_183_100) := u_ldIT f_l6_eq (s_iload (i := .iload 6) (len := 2) hq_183 (by decide +kernel) rfl (.inl ⟨rfl, rfl⟩) : e_Sn 183 100 (o_load e_okI 6 102)) t_183_102
noncomputable def n_183_98 : e_Y := u_st f_okI f_s6 n_183_100
theorem t_183_98 : e_Sn 183 98 (e_un n_183_98) := u_stIT (fun _ _ _ => f_s6_eq) (s_istore (i := .istore 6) (len := 2) hq_183 (by decide +kernel) rfl (.inl ⟨rfl, rfl⟩) : e_Sn 183 98 (o_store e_okI 6 100)) t_183_100
noncomputable def n_183_94 : e_Y := n_183_98
theorem t_183_94 : e_Sn 183 94 (e_un n_183_94) := u_gotoT (s_goto (off := (4)) hq_183 (by decide +kernel) rfl : e_Sn 183 94 (o_goto 98)) t_183_98
noncomputable def n_183_93 : e_Y := u_push (.inl 2147483649) n_183_94
theorem t_183_93 : e_Sn 183 93 (e_un n_183_93) := u_pushT (s_iconst (n := (1)) hq_183 (by decide +kernel) rfl ⟨by decide +kernel, by decide +kernel⟩ : e_Sn 183 93 (o_push (.inl 2147483649) 94)) t_183_94
noncomputable def n_183_90 : e_Y := u_if y_le0 (u_old2 (o_ifgt 97 93) 97 (u_at 97) n_183_93) (u_at 97) n_183_93
theorem t_183_90 : e_Sn 183 90 (e_un n_183_90) := u_ifgtT rfl (s_ifgt (off := (7)) hq_183 (by decide +kernel) rfl rfl : e_Sn 183 90 (o_ifgt 97 93)) u_atT t_183_93
noncomputable def n_183_89 : e_Y := u_old (o_lcmp 90) n_183_90
theorem t_183_89 : e_Sn 183 89 (e_un n_183_89) := u_oldT (s_lcmp hq_183 (by decide +kernel) rfl : e_Sn 183 89 (o_lcmp 90)) t_183_90 e_cg_lcmp
noncomputable def n_183_88 : e_Y := u_push (e_L 9223372036854775808) n_183_89
theorem t_183_88 : e_Sn 183 88 (e_un n_183_88) := u_pushT (s_lconst (n := 0) hq_183 (by decide +kernel) rfl ⟨by decide +kernel, by decide +kernel⟩ : e_Sn 183 88 (o_push (e_L 9223372036854775808) 89)) t_183_89
noncomputable def n_183_86 : e_Y := u_old (o_load e_okL 4 88) n_183_88
theorem t_183_86 : e_Sn 183 86 (e_un n_183_86) := u_oldT (s_lload (i := .lload 4) (len := 2) hq_183 (by decide +kernel) rfl (.inl ⟨rfl, rfl⟩) : e_Sn 183 86 (o_load e_okL 4 88)) t_183_88 e_congr_load
noncomputable def n_183_83 : e_Y := n_183_98
theorem t_183_83 : e_Sn 183 83 (e_un n_183_83) := u_gotoT (s_goto (off := (15)) hq_183 (by decide +kernel) rfl : e_Sn 183 83 (o_goto 98)) t_183_98
noncomputable def n_183_82 : e_Y := u_push (.inl 2147483648) n_183_83
theorem t_183_82 : e_Sn 183 82 (e_un n_183_82) := u_pushT (s_iconst (n := (0)) hq_183 (by decide +kernel) rfl ⟨by decide +kernel, by decide +kernel⟩ : e_Sn 183 82 (o_push (.inl 2147483648) 83)) t_183_83
noncomputable def n_183_75 : e_Y := u_if y_ge0 (u_old2 (o_iflt 82 78) 82 n_183_82 (u_at 78)) n_183_82 (u_at 78)
theorem t_183_75 : e_Sn 183 75 (e_un n_183_75) := u_ifltT rfl (s_iflt (off := (7)) hq_183 (by decide +kernel) rfl rfl : e_Sn 183 75 (o_iflt 82 78)) t_183_82 u_atT
noncomputable def n_183_74 : e_Y := u_old (o_lcmp 75) n_183_75
theorem t_183_74 : e_Sn 183 74 (e_un n_183_74) := u_oldT (s_lcmp hq_183 (by decide +kernel) rfl : e_Sn 183 74 (o_lcmp 75)) t_183_75 e_cg_lcmp
noncomputable def n_183_73 : e_Y := u_push (e_L 9223372036854775808) n_183_74
theorem t_183_73 : e_Sn 183 73 (e_un n_183_73) := u_pushT (s_lconst (n := 0) hq_183 (by decide +kernel) rfl ⟨by decide +kernel, by decide +kernel⟩ : e_Sn 183 73 (o_push (e_L 9223372036854775808) 74)) t_183_74
noncomputable def n_183_71 : e_Y := u_old (o_load e_okL 4 73) n_183_73
theorem t_183_71 : e_Sn 183 71 (e_un n_183_71) := u_oldT (s_lload (i := .lload 4) (len := 2) hq_183 (by decide +kernel) rfl (.inl ⟨rfl, rfl⟩) : e_Sn 183 71 (o_load e_okL 4 73)) t_183_73 e_congr_load
noncomputable def n_183_68 : e_Y := u_jmp y_le (u_old2 (o_cgt 71 86) 71 n_183_71 n_183_86) n_183_71 n_183_86
theorem t_183_68 : e_Sn 183 68 (e_un n_183_68) := u_cgtT rfl (s_cle (off := (18)) hq_183 (by decide +kernel) rfl rfl : e_Sn 183 68 (o_cgt 71 86)) t_183_71 t_183_86
noncomputable def n_183_67 : e_Y := u_ald 0 (u_old (o_ald e_fcs 68) n_183_68) n_183_68
theorem t_183_67 : e_Sn 183 67 (e_un n_183_67) := u_aldT (s_iald hq_183 (by decide +kernel) rfl : e_Sn 183 67 (o_ald e_fcs 68)) t_183_68
noncomputable def n_183_66 : e_Y := u_push (.inl 2147483649) n_183_67
theorem t_183_66 : e_Sn 183 66 (e_un n_183_66) := u_pushT (s_iconst (n := (1)) hq_183 (by decide +kernel) rfl ⟨by decide +kernel, by decide +kernel⟩ : e_Sn 183 66 (o_push (.inl 2147483649) 67)) t_183_67
noncomputable def n_183_65 : e_Y := u_ld f_okA f_l0 n_183_66
theorem t_183_65 : e_Sn 183 65 (e_un n_183_65) := u_ldAT f_l0_eq (s_aload (i := .aload_n 0) (len := 1) hq_183 (by decide +kernel) rfl (.inr ⟨0, rfl, rfl, rfl⟩) : e_Sn 183 65 (o_load e_okR 0 66)) t_183_66
noncomputable def n_183_64 : e_Y := u_ald 0 (u_old (o_ald e_fcs 65) n_183_65) n_183_65
theorem t_183_64 : e_Sn 183 64 (e_un n_183_64) := u_aldT (s_iald hq_183 (by decide +kernel) rfl : e_Sn 183 64 (o_ald e_fcs 65)) t_183_65
noncomputable def n_183_63 : e_Y := u_push (.inl 2147483649) n_183_64
theorem t_183_63 : e_Sn 183 63 (e_un n_183_63) := u_pushT (s_iconst (n := (1)) hq_183 (by decide +kernel) rfl ⟨by decide +kernel, by decide +kernel⟩ : e_Sn 183 63 (o_push (.inl 2147483649) 64)) t_183_64
noncomputable def n_183_62 : e_Y := u_ld f_okA f_l1 n_183_63
theorem t_183_62 : e_Sn 183 62 (e_un n_183_62) := u_ldAT f_l1_eq (s_aload (i := .aload_n 1) (len := 1) hq_183 (by decide +kernel) rfl (.inr ⟨1, rfl, rfl, rfl⟩) : e_Sn 183 62 (o_load e_okR 1 63)) t_183_63
noncomputable def n_183_60 : e_Y := u_old (o_storeL 4 62) n_183_62
theorem t_183_60 : e_Sn 183 60 (e_un n_183_60) := u_oldT (s_lstore (i := .lstore 4) (len := 2) hq_183 (by decide +kernel) rfl (.inl ⟨rfl, rfl⟩) : e_Sn 183 60 (o_storeL 4 62)) t_183_62 (e_cg_storeL 4)
noncomputable def n_183_59 : e_Y := u_old (o_lsub 60) n_183_60
theorem t_183_59 : e_Sn 183 59 (e_un n_183_59) := u_oldT (s_lsub hq_183 (by decide +kernel) rfl : e_Sn 183 59 (o_lsub 60)) t_183_60 e_cg_lsub
noncomputable def n_183_58 : e_Y := u_old (o_lmul 59) n_183_59
theorem t_183_58 : e_Sn 183 58 (e_un n_183_58) := u_oldT (s_lmul hq_183 (by decide +kernel) rfl : e_Sn 183 58 (o_lmul 59)) t_183_59 e_cg_lmul
noncomputable def n_183_57 : e_Y := u_old (o_i2l 58) n_183_58
theorem t_183_57 : e_Sn 183 57 (e_un n_183_57) := u_oldT (s_i2l hq_183 (by decide +kernel) rfl : e_Sn 183 57 (o_i2l 58)) t_183_58 e_congr_i2l
noncomputable def n_183_56 : e_Y := u_bin a_isub (u_old (o_isub 57) n_183_57) n_183_57
theorem t_183_56 : e_Sn 183 56 (e_un n_183_56) := u_isubT (s_isub hq_183 (by decide +kernel) rfl : e_Sn 183 56 (o_isub 57)) t_183_57
noncomputable def n_183_55 : e_Y := u_ald 0 (u_old (o_ald e_fcs 56) n_183_56) n_183_56
theorem t_183_55 : e_Sn 183 55 (e_un n_183_55) := u_aldT (s_iald hq_183 (by decide +kernel) rfl : e_Sn 183 55 (o_ald e_fcs 56)) t_183_56
noncomputable def n_183_54 : e_Y := u_push (.inl 2147483648) n_183_55
theorem t_183_54 : e_Sn 183 54 (e_un n_183_54) := u_pushT (s_iconst (n := (0)) hq_183 (by decide +kernel) rfl ⟨by decide +kernel, by decide +kernel⟩ : e_Sn 183 54 (o_push (.inl 2147483648) 55)) t_183_55
noncomputable def n_183_53 : e_Y := u_ld f_okA f_l0 n_183_54
theorem t_183_53 : e_Sn 183 53 (e_un n_183_53) := u_ldAT f_l0_eq (s_aload (i := .aload_n 0) (len := 1) hq_183 (by decide +kernel) rfl (.inr ⟨0, rfl, rfl, rfl⟩) : e_Sn 183 53 (o_load e_okR 0 54)) t_183_54
noncomputable def n_183_52 : e_Y := u_ald 0 (u_old (o_ald e_fcs 53) n_183_53) n_183_53
theorem t_183_52 : e_Sn 183 52 (e_un n_183_52) := u_aldT (s_iald hq_183 (by decide +kernel) rfl : e_Sn 183 52 (o_ald e_fcs 53)) t_183_53
noncomputable def n_183_51 : e_Y := u_push (.inl 2147483648) n_183_52
theorem t_183_51 : e_Sn 183 51 (e_un n_183_51) := u_pushT (s_iconst (n := (0)) hq_183 (by decide +kernel) rfl ⟨by decide +kernel, by decide +kernel⟩ : e_Sn 183 51 (o_push (.inl 2147483648) 52)) t_183_52
noncomputable def n_183_50 : e_Y := u_ld f_okA f_l1 n_183_51
theorem t_183_50 : e_Sn 183 50 (e_un n_183_50) := u_ldAT f_l1_eq (s_aload (i := .aload_n 1) (len := 1) hq_183 (by decide +kernel) rfl (.inr ⟨1, rfl, rfl, rfl⟩) : e_Sn 183 50 (o_load e_okR 1 51)) t_183_51
noncomputable def n_183_49 : e_Y := u_old (o_i2l 50) n_183_50
theorem t_183_49 : e_Sn 183 49 (e_un n_183_49) := u_oldT (s_i2l hq_183 (by decide +kernel) rfl : e_Sn 183 49 (o_i2l 50)) t_183_50 e_congr_i2l
noncomputable def n_183_48 : e_Y := u_bin a_isub (u_old (o_isub 49) n_183_49) n_183_49
theorem t_183_48 : e_Sn 183 48 (e_un n_183_48) := u_isubT (s_isub hq_183 (by decide +kernel) rfl : e_Sn 183 48 (o_isub 49)) t_183_49
noncomputable def n_183_47 : e_Y := u_ald 0 (u_old (o_ald e_fcs 48) n_183_48) n_183_48
theorem t_183_47 : e_Sn 183 47 (e_un n_183_47) := u_aldT (s_iald hq_183 (by decide +kernel) rfl : e_Sn 183 47 (o_ald e_fcs 48)) t_183_48
noncomputable def n_183_46 : e_Y := u_push (.inl 2147483649) n_183_47
theorem t_183_46 : e_Sn 183 46 (e_un n_183_46) := u_pushT (s_iconst (n := (1)) hq_183 (by decide +kernel) rfl ⟨by decide +kernel, by decide +kernel⟩ : e_Sn 183 46 (o_push (.inl 2147483649) 47)) t_183_47
noncomputable def n_183_45 : e_Y := u_ld f_okA f_l0 n_183_46
theorem t_183_45 : e_Sn 183 45 (e_un n_183_45) := u_ldAT f_l0_eq (s_aload (i := .aload_n 0) (len := 1) hq_183 (by decide +kernel) rfl (.inr ⟨0, rfl, rfl, rfl⟩) : e_Sn 183 45 (o_load e_okR 0 46)) t_183_46
noncomputable def n_183_44 : e_Y := u_ld f_okI f_l3 n_183_45
theorem t_183_44 : e_Sn 183 44 (e_un n_183_44) := u_ldIT f_l3_eq (s_iload (i := .iload_n 3) (len := 1) hq_183 (by decide +kernel) rfl (.inr ⟨3, rfl, rfl, rfl⟩) : e_Sn 183 44 (o_load e_okI 3 45)) t_183_45
noncomputable def n_183_43 : e_Y := u_old (o_lmul 44) n_183_44
theorem t_183_43 : e_Sn 183 43 (e_un n_183_43) := u_oldT (s_lmul hq_183 (by decide +kernel) rfl : e_Sn 183 43 (o_lmul 44)) t_183_44 e_cg_lmul
noncomputable def n_183_42 : e_Y := u_old (o_i2l 43) n_183_43
theorem t_183_42 : e_Sn 183 42 (e_un n_183_42) := u_oldT (s_i2l hq_183 (by decide +kernel) rfl : e_Sn 183 42 (o_i2l 43)) t_183_43 e_congr_i2l
noncomputable def n_183_41 : e_Y := u_bin a_isub (u_old (o_isub 42) n_183_42) n_183_42
theorem t_183_41 : e_Sn 183 41 (e_un n_183_41) := u_isubT (s_isub hq_183 (by decide +kernel) rfl : e_Sn 183 41 (o_isub 42)) t_183_42
noncomputable def n_183_40 : e_Y := u_ald 0 (u_old (o_ald e_fcs 41) n_183_41) n_183_41
theorem t_183_40 : e_Sn 183 40 (e_un n_183_40) := u_aldT (s_iald hq_183 (by decide +kernel) rfl : e_Sn 183 40 (o_ald e_fcs 41)) t_183_41
noncomputable def n_183_39 : e_Y := u_push (.inl 2147483649) n_183_40
theorem t_183_39 : e_Sn 183 39 (e_un n_183_39) := u_pushT (s_iconst (n := (1)) hq_183 (by decide +kernel) rfl ⟨by decide +kernel, by decide +kernel⟩ : e_Sn 183 39 (o_push (.inl 2147483649) 40)) t_183_40
noncomputable def n_183_38 : e_Y := u_ld f_okA f_l0 n_183_39
theorem t_183_38 : e_Sn 183 38 (e_un n_183_38) := u_ldAT f_l0_eq (s_aload (i := .aload_n 0) (len := 1) hq_183 (by decide +kernel) rfl (.inr ⟨0, rfl, rfl, rfl⟩) : e_Sn 183 38 (o_load e_okR 0 39)) t_183_39
noncomputable def n_183_37 : e_Y := u_ald 0 (u_old (o_ald e_fcs 38) n_183_38) n_183_38
theorem t_183_37 : e_Sn 183 37 (e_un n_183_37) := u_aldT (s_iald hq_183 (by decide +kernel) rfl : e_Sn 183 37 (o_ald e_fcs 38)) t_183_38
noncomputable def n_183_36 : e_Y := u_push (.inl 2147483649) n_183_37
theorem t_183_36 : e_Sn 183 36 (e_un n_183_36) := u_pushT (s_iconst (n := (1)) hq_183 (by decide +kernel) rfl ⟨by decide +kernel, by decide +kernel⟩ : e_Sn 183 36 (o_push (.inl 2147483649) 37)) t_183_37
noncomputable def n_183_35 : e_Y := u_ld f_okA f_l1 n_183_36
theorem t_183_35 : e_Sn 183 35 (e_un n_183_35) := u_ldAT f_l1_eq (s_aload (i := .aload_n 1) (len := 1) hq_183 (by decide +kernel) rfl (.inr ⟨1, rfl, rfl, rfl⟩) : e_Sn 183 35 (o_load e_okR 1 36)) t_183_36
noncomputable def n_183_34 : e_Y := u_old (o_i2l 35) n_183_35
theorem t_183_34 : e_Sn 183 34 (e_un n_183_34) := u_oldT (s_i2l hq_183 (by decide +kernel) rfl : e_Sn 183 34 (o_i2l 35)) t_183_35 e_congr_i2l
noncomputable def n_183_33 : e_Y := u_bin a_isub (u_old (o_isub 34) n_183_34) n_183_34
theorem t_183_33 : e_Sn 183 33 (e_un n_183_33) := u_isubT (s_isub hq_183 (by decide +kernel) rfl : e_Sn 183 33 (o_isub 34)) t_183_34
noncomputable def n_183_32 : e_Y := u_ald 0 (u_old (o_ald e_fcs 33) n_183_33) n_183_33
theorem t_183_32 : e_Sn 183 32 (e_un n_183_32) := u_aldT (s_iald hq_183 (by decide +kernel) rfl : e_Sn 183 32 (o_ald e_fcs 33)) t_183_33
noncomputable def n_183_31 : e_Y := u_push (.inl 2147483648) n_183_32
theorem t_183_31 : e_Sn 183 31 (e_un n_183_31) := u_pushT (s_iconst (n := (0)) hq_183 (by decide +kernel) rfl ⟨by decide +kernel, by decide +kernel⟩ : e_Sn 183 31 (o_push (.inl 2147483648) 32)) t_183_32
noncomputable def n_183_30 : e_Y := u_ld f_okA f_l0 n_183_31
theorem t_183_30 : e_Sn 183 30 (e_un n_183_30) := u_ldAT f_l0_eq (s_aload (i := .aload_n 0) (len := 1) hq_183 (by decide +kernel) rfl (.inr ⟨0, rfl, rfl, rfl⟩) : e_Sn 183 30 (o_load e_okR 0 31)) t_183_31
noncomputable def n_183_29 : e_Y := u_ld f_okI f_l2 n_183_30
theorem t_183_29 : e_Sn 183 29 (e_un n_183_29) := u_ldIT f_l2_eq (s_iload (i := .iload_n 2) (len := 1) hq_183 (by decide +kernel) rfl (.inr ⟨2, rfl, rfl, rfl⟩) : e_Sn 183 29 (o_load e_okI 2 30)) t_183_30
noncomputable def n_183_28 : e_Y := u_retI
theorem t_183_28 : e_Sn 183 28 (e_un n_183_28) := u_retIT (s_iret hq_183 hr_183 (by decide +kernel) : e_Sn 183 28 (o_ret e_okI))
noncomputable def n_183_27 : e_Y := u_push (.inl 2147483648) n_183_28
theorem t_183_27 : e_Sn 183 27 (e_un n_183_27) := u_pushT (s_iconst (n := (0)) hq_183 (by decide +kernel) rfl ⟨by decide +kernel, by decide +kernel⟩ : e_Sn 183 27 (o_push (.inl 2147483648) 28)) t_183_28
noncomputable def n_183_24 : e_Y := u_jmp y_ne (u_old2 (o_ceq 27 29) 27 n_183_27 n_183_29) n_183_27 n_183_29
theorem t_183_24 : e_Sn 183 24 (e_un n_183_24) := u_ceqT rfl (s_cne (off := (5)) hq_183 (by decide +kernel) rfl rfl : e_Sn 183 24 (o_ceq 27 29)) t_183_27 t_183_29
noncomputable def n_183_23 : e_Y := u_push (.inl 2147483648) n_183_24
theorem t_183_23 : e_Sn 183 23 (e_un n_183_23) := u_pushT (s_iconst (n := (0)) hq_183 (by decide +kernel) rfl ⟨by decide +kernel, by decide +kernel⟩ : e_Sn 183 23 (o_push (.inl 2147483648) 24)) t_183_24
noncomputable def n_183_20 : e_Y := n_183_24
theorem t_183_20 : e_Sn 183 20 (e_un n_183_20) := u_gotoT (s_goto (off := (4)) hq_183 (by decide +kernel) rfl : e_Sn 183 20 (o_goto 24)) t_183_24
noncomputable def n_183_19 : e_Y := u_push (.inl 2147483649) n_183_20
theorem t_183_19 : e_Sn 183 19 (e_un n_183_19) := u_pushT (s_iconst (n := (1)) hq_183 (by decide +kernel) rfl ⟨by decide +kernel, by decide +kernel⟩ : e_Sn 183 19 (o_push (.inl 2147483649) 20)) t_183_20
noncomputable def n_183_16 : e_Y := u_jmp y_le (u_old2 (o_cgt 23 19) 23 n_183_23 n_183_19) n_183_23 n_183_19
theorem t_183_16 : e_Sn 183 16 (e_un n_183_16) := u_cgtT rfl (s_cgt (off := (7)) hq_183 (by decide +kernel) rfl rfl : e_Sn 183 16 (o_cgt 23 19)) t_183_23 t_183_19
noncomputable def n_183_15 : e_Y := u_ld f_okI f_l3 n_183_16
theorem t_183_15 : e_Sn 183 15 (e_un n_183_15) := u_ldIT f_l3_eq (s_iload (i := .iload_n 3) (len := 1) hq_183 (by decide +kernel) rfl (.inr ⟨3, rfl, rfl, rfl⟩) : e_Sn 183 15 (o_load e_okI 3 16)) t_183_16
noncomputable def n_183_14 : e_Y := u_ald 0 (u_old (o_ald e_fcs 15) n_183_15) n_183_15
theorem t_183_14 : e_Sn 183 14 (e_un n_183_14) := u_aldT (s_iald hq_183 (by decide +kernel) rfl : e_Sn 183 14 (o_ald e_fcs 15)) t_183_15
noncomputable def n_183_13 : e_Y := u_push (.inl 2147483649) n_183_14
theorem t_183_13 : e_Sn 183 13 (e_un n_183_13) := u_pushT (s_iconst (n := (1)) hq_183 (by decide +kernel) rfl ⟨by decide +kernel, by decide +kernel⟩ : e_Sn 183 13 (o_push (.inl 2147483649) 14)) t_183_14
noncomputable def n_183_12 : e_Y := u_ld f_okA f_l1 n_183_13
theorem t_183_12 : e_Sn 183 12 (e_un n_183_12) := u_ldAT f_l1_eq (s_aload (i := .aload_n 1) (len := 1) hq_183 (by decide +kernel) rfl (.inr ⟨1, rfl, rfl, rfl⟩) : e_Sn 183 12 (o_load e_okR 1 13)) t_183_13
noncomputable def n_183_11 : e_Y := u_push (.inl 2147483648) n_183_12
theorem t_183_11 : e_Sn 183 11 (e_un n_183_11) := u_pushT (s_iconst (n := (0)) hq_183 (by decide +kernel) rfl ⟨by decide +kernel, by decide +kernel⟩ : e_Sn 183 11 (o_push (.inl 2147483648) 12)) t_183_12
noncomputable def n_183_8 : e_Y := n_183_12
theorem t_183_8 : e_Sn 183 8 (e_un n_183_8) := u_gotoT (s_goto (off := (4)) hq_183 (by decide +kernel) rfl : e_Sn 183 8 (o_goto 12)) t_183_12
noncomputable def n_183_7 : e_Y := u_push (.inl 2147483649) n_183_8
theorem t_183_7 : e_Sn 183 7 (e_un n_183_7) := u_pushT (s_iconst (n := (1)) hq_183 (by decide +kernel) rfl ⟨by decide +kernel, by decide +kernel⟩ : e_Sn 183 7 (o_push (.inl 2147483649) 8)) t_183_8
noncomputable def n_183_4 : e_Y := u_jmp y_le (u_old2 (o_cgt 11 7) 11 n_183_11 n_183_7) n_183_11 n_183_7
theorem t_183_4 : e_Sn 183 4 (e_un n_183_4) := u_cgtT rfl (s_cgt (off := (7)) hq_183 (by decide +kernel) rfl rfl : e_Sn 183 4 (o_cgt 11 7)) t_183_11 t_183_7
noncomputable def n_183_3 : e_Y := u_ld f_okI f_l3 n_183_4
theorem t_183_3 : e_Sn 183 3 (e_un n_183_3) := u_ldIT f_l3_eq (s_iload (i := .iload_n 3) (len := 1) hq_183 (by decide +kernel) rfl (.inr ⟨3, rfl, rfl, rfl⟩) : e_Sn 183 3 (o_load e_okI 3 4)) t_183_4
noncomputable def n_183_2 : e_Y := u_ald 0 (u_old (o_ald e_fcs 3) n_183_3) n_183_3
theorem t_183_2 : e_Sn 183 2 (e_un n_183_2) := u_aldT (s_iald hq_183 (by decide +kernel) rfl : e_Sn 183 2 (o_ald e_fcs 3)) t_183_3
noncomputable def n_183_1 : e_Y := u_push (.inl 2147483649) n_183_2
theorem t_183_1 : e_Sn 183 1 (e_un n_183_1) := u_pushT (s_iconst (n := (1)) hq_183 (by decide +kernel) rfl ⟨by decide +kernel, by decide +kernel⟩ : e_Sn 183 1 (o_push (.inl 2147483649) 2)) t_183_2
noncomputable def n_183_0 : e_Y := u_ld f_okA f_l0 n_183_1
theorem t_183_0 : e_Sn 183 0 (e_un n_183_0) := u_ldAT f_l0_eq (s_aload (i := .aload_n 0) (len := 1) hq_183 (by decide +kernel) rfl (.inr ⟨0, rfl, rfl, rfl⟩) : e_Sn 183 0 (o_load e_okR 0 1)) t_183_1
noncomputable def e_tb_183 : e_X := (e_lf 0 (e_un n_183_0))
theorem e_tk_183 : e_Tb 183 e_tb_183 := (e_lfT t_183_0)
theorem hq_218 : (e_ml[218]?).map (·.2.1) = some prog_37_method_59_code := rfl
theorem ho_218 : (e_ml[218]?).map (·.1.cls) = some "java/lang/Math" := rfl
theorem hr_218 : (e_ml[218]?).map (·.2.2.2) = some (some .int) := rfl
noncomputable def n_218_10 : e_Y := u_retI
theorem t_218_10 : e_Sn 218 10 (e_un n_218_10) := u_retIT (s_iret hq_218 hr_218 (by decide +kernel) : e_Sn 218 10 (o_ret e_okI))
noncomputable def n_218_9 : e_Y := u_ld f_okI f_l0 n_218_10
theorem t_218_9 : e_Sn 218 9 (e_un n_218_9) := u_ldIT f_l0_eq (s_iload (i := .iload_n 0) (len := 1) hq_218 (by decide +kernel) rfl (.inr ⟨0, rfl, rfl, rfl⟩) : e_Sn 218 9 (o_load e_okI 0 10)) t_218_10
noncomputable def n_218_6 : e_Y := n_218_10
theorem t_218_6 : e_Sn 218 6 (e_un n_218_6) := u_gotoT (s_goto (off := (4)) hq_218 (by decide +kernel) rfl : e_Sn 218 6 (o_goto 10)) t_218_10
noncomputable def n_218_5 : e_Y := u_old (o_ineg 6) n_218_6
theorem t_218_5 : e_Sn 218 5 (e_un n_218_5) := u_oldT (s_ineg hq_218 (by decide +kernel) rfl : e_Sn 218 5 (o_ineg 6)) t_218_6 e_cg_ineg
noncomputable def n_218_4 : e_Y := u_ld f_okI f_l0 n_218_5
theorem t_218_4 : e_Sn 218 4 (e_un n_218_4) := u_ldIT f_l0_eq (s_iload (i := .iload_n 0) (len := 1) hq_218 (by decide +kernel) rfl (.inr ⟨0, rfl, rfl, rfl⟩) : e_Sn 218 4 (o_load e_okI 0 5)) t_218_5
noncomputable def n_218_1 : e_Y := u_if y_ge0 (u_old2 (o_iflt 4 9) 4 n_218_4 n_218_9) n_218_4 n_218_9
theorem t_218_1 : e_Sn 218 1 (e_un n_218_1) := u_ifltT rfl (s_ifge (off := (8)) hq_218 (by decide +kernel) rfl rfl : e_Sn 218 1 (o_iflt 4 9)) t_218_4 t_218_9
noncomputable def n_218_0 : e_Y := u_ld f_okI f_l0 n_218_1
theorem t_218_0 : e_Sn 218 0 (e_un n_218_0) := u_ldIT f_l0_eq (s_iload (i := .iload_n 0) (len := 1) hq_218 (by decide +kernel) rfl (.inr ⟨0, rfl, rfl, rfl⟩) : e_Sn 218 0 (o_load e_okI 0 1)) t_218_1
noncomputable def e_tb_218 : e_X := (e_lf 0 (e_un n_218_0))
theorem e_tk_218 : e_Tb 218 e_tb_218 := (e_lfT t_218_0)
theorem hq_227 : (e_ml[227]?).map (·.2.1) = some prog_50_method_18_code := rfl
theorem ho_227 : (e_ml[227]?).map (·.1.cls) = some "java/util/ArrayList" := rfl
theorem hr_227 : (e_ml[227]?).map (·.2.2.2) = some (some (.object "java/lang/Object")) := rfl
noncomputable def n_227_6 : e_Y := u_retA
theorem t_227_6 : e_Sn 227 6 (e_un n_227_6) := u_retAT (s_aret (.inl ⟨_, rfl⟩) hq_227 hr_227 (by decide +kernel) : e_Sn 227 6 (o_ret e_okR))
noncomputable def n_227_5 : e_Y := u_ald 3 (u_old (o_aldO 3 6) n_227_6) n_227_6
theorem t_227_5 : e_Sn 227 5 (e_un n_227_5) := u_aldOT (s_aald (tc := 0) rfl hq_227 (by decide +kernel) rfl : e_Sn 227 5 (o_aldO 3 6)) t_227_6
noncomputable def n_227_4 : e_Y := u_ld f_okI f_l1 n_227_5
theorem t_227_4 : e_Sn 227 4 (e_un n_227_4) := u_ldIT f_l1_eq (s_iload (i := .iload_n 1) (len := 1) hq_227 (by decide +kernel) rfl (.inr ⟨1, rfl, rfl, rfl⟩) : e_Sn 227 4 (o_load e_okI 1 5)) t_227_5
noncomputable def n_227_1 : e_Y := u_getf 19 0 (u_old (o_getf (e_f1 19 0) 4) n_227_4) n_227_4
theorem t_227_1 : e_Sn 227 1 (e_un n_227_1) := u_getfT (s_getf (C := er_19) (T := et_19) (N := 3) (ref := "java/util/ArrayList") (index := 9) (ci := 19) (k := 0) hq_227 ho_227 ⟨rfl, by decide, ei_19, (List.mem_of_getElem? (i := 1764) (by decide +kernel)), .inl rfl⟩ (by decide +kernel) rfl : e_Sn 227 1 (o_getf (e_f1 19 0) 4)) t_227_4
noncomputable def n_227_0 : e_Y := u_ld f_okA f_l0 n_227_1
theorem t_227_0 : e_Sn 227 0 (e_un n_227_0) := u_ldAT f_l0_eq (s_aload (i := .aload_n 0) (len := 1) hq_227 (by decide +kernel) rfl (.inr ⟨0, rfl, rfl, rfl⟩) : e_Sn 227 0 (o_load e_okR 0 1)) t_227_1
noncomputable def e_tb_227 : e_X := (e_lf 0 (e_un n_227_0))
theorem e_tk_227 : e_Tb 227 e_tb_227 := (e_lfT t_227_0)
theorem hq_243 : (e_ml[243]?).map (·.2.1) = some prog_60_method_11_code := rfl
theorem ho_243 : (e_ml[243]?).map (·.1.cls) = some "jdk/internal/util/Preconditions" := rfl
theorem hr_243 : (e_ml[243]?).map (·.2.2.2) = some (some .int) := rfl
noncomputable def n_243_17 : e_Y := u_retI
theorem t_243_17 : e_Sn 243 17 (e_un n_243_17) := u_retIT (s_iret hq_243 hr_243 (by decide +kernel) : e_Sn 243 17 (o_ret e_okI))
noncomputable def n_243_16 : e_Y := u_ld f_okI f_l0 n_243_17
theorem t_243_16 : e_Sn 243 16 (e_un n_243_16) := u_ldIT f_l0_eq (s_iload (i := .iload_n 0) (len := 1) hq_243 (by decide +kernel) rfl (.inr ⟨0, rfl, rfl, rfl⟩) : e_Sn 243 16 (o_load e_okI 0 17)) t_243_17
noncomputable def n_243_6 : e_Y := u_jmp y_ge (u_old2 (o_clt 16 9) 16 n_243_16 (u_at 9)) n_243_16 (u_at 9)
theorem t_243_6 : e_Sn 243 6 (e_un n_243_6) := u_cltT rfl (s_clt (off := (10)) hq_243 (by decide +kernel) rfl rfl : e_Sn 243 6 (o_clt 16 9)) t_243_16 u_atT
noncomputable def n_243_5 : e_Y := u_ld f_okI f_l1 n_243_6
theorem t_243_5 : e_Sn 243 5 (e_un n_243_5) := u_ldIT f_l1_eq (s_iload (i := .iload_n 1) (len := 1) hq_243 (by decide +kernel) rfl (.inr ⟨1, rfl, rfl, rfl⟩) : e_Sn 243 5 (o_load e_okI 1 6)) t_243_6
noncomputable def n_243_4 : e_Y := u_ld f_okI f_l0 n_243_5
theorem t_243_4 : e_Sn 243 4 (e_un n_243_4) := u_ldIT f_l0_eq (s_iload (i := .iload_n 0) (len := 1) hq_243 (by decide +kernel) rfl (.inr ⟨0, rfl, rfl, rfl⟩) : e_Sn 243 4 (o_load e_okI 0 5)) t_243_5
noncomputable def n_243_1 : e_Y := u_if y_ge0 (u_old2 (o_iflt 9 4) 9 (u_at 9) n_243_4) (u_at 9) n_243_4
theorem t_243_1 : e_Sn 243 1 (e_un n_243_1) := u_ifltT rfl (s_iflt (off := (8)) hq_243 (by decide +kernel) rfl rfl : e_Sn 243 1 (o_iflt 9 4)) u_atT t_243_4
noncomputable def n_243_0 : e_Y := u_ld f_okI f_l0 n_243_1
theorem t_243_0 : e_Sn 243 0 (e_un n_243_0) := u_ldIT f_l0_eq (s_iload (i := .iload_n 0) (len := 1) hq_243 (by decide +kernel) rfl (.inr ⟨0, rfl, rfl, rfl⟩) : e_Sn 243 0 (o_load e_okI 0 1)) t_243_1
noncomputable def e_tb_243 : e_X := (e_lf 0 (e_un n_243_0))
theorem e_tk_243 : e_Tb 243 e_tb_243 := (e_lfT t_243_0)
theorem hq_241 : (e_ml[241]?).map (·.2.1) = some prog_56_method_17_code := rfl
theorem ho_241 : (e_ml[241]?).map (·.1.cls) = some "java/util/Objects" := rfl
theorem hr_241 : (e_ml[241]?).map (·.2.2.2) = some (some .int) := rfl
noncomputable def n_241_6 : e_Y := u_retI
theorem t_241_6 : e_Sn 241 6 (e_un n_241_6) := u_retIT (s_iret hq_241 hr_241 (by decide +kernel) : e_Sn 241 6 (o_ret e_okI))
noncomputable def n_241_3 : e_Y := u_callS 243 3 22 3 n_243_0 n_241_6
theorem t_241_3 : e_Sn 241 3 (e_un n_241_3) := u_callST rfl (s_callS (index := 105) hq_241 ho_241 hy_243 hp_243 hc_243 hi_243 hd_243 (List.mem_of_getElem? (i := 2024) (by decide +kernel)) hs_243 (by decide +kernel) rfl : e_Sn 241 3 (o_callS 243 3 3 6)) t_243_0 t_241_6
noncomputable def n_241_2 : e_Y := u_push e_N n_241_3
theorem t_241_2 : e_Sn 241 2 (e_un n_241_2) := u_pushT (s_null hq_241 (by decide +kernel) rfl : e_Sn 241 2 (o_push e_N 3)) t_241_3
noncomputable def n_241_1 : e_Y := u_ld f_okI f_l1 n_241_2
theorem t_241_1 : e_Sn 241 1 (e_un n_241_1) := u_ldIT f_l1_eq (s_iload (i := .iload_n 1) (len := 1) hq_241 (by decide +kernel) rfl (.inr ⟨1, rfl, rfl, rfl⟩) : e_Sn 241 1 (o_load e_okI 1 2)) t_241_2
noncomputable def n_241_0 : e_Y := u_ld f_okI f_l0 n_241_1
theorem t_241_0 : e_Sn 241 0 (e_un n_241_0) := u_ldIT f_l0_eq (s_iload (i := .iload_n 0) (len := 1) hq_241 (by decide +kernel) rfl (.inr ⟨0, rfl, rfl, rfl⟩) : e_Sn 241 0 (o_load e_okI 0 1)) t_241_1
noncomputable def e_tb_241 : e_X := (e_lf 0 (e_un n_241_0))
theorem e_tk_241 : e_Tb 241 e_tb_241 := (e_lfT t_241_0)
theorem hq_229 : (e_ml[229]?).map (·.2.1) = some prog_50_method_20_code := rfl
theorem ho_229 : (e_ml[229]?).map (·.1.cls) = some "java/util/ArrayList" := rfl
theorem hr_229 : (e_ml[229]?).map (·.2.2.2) = some (some (.object "java/lang/Object")) := rfl
noncomputable def n_229_14 : e_Y := u_retA
theorem t_229_14 : e_Sn 229 14 (e_un n_229_14) := u_retAT (s_aret (.inl ⟨_, rfl⟩) hq_229 hr_229 (by decide +kernel) : e_Sn 229 14 (o_ret e_okR))
noncomputable def n_229_11 : e_Y := u_callV 19 227 2 21 2 n_227_0 n_229_14
theorem t_229_11 : e_Sn 229 11 (e_un n_229_11) := u_callVT rfl (s_callV (ci := 19) (C := er_19) (T := et_19) (N := 3) (index := 123) hq_229 ho_229 hy_227 hp_227 hc_227 hi_227 hd_227 (List.mem_of_getElem? (i := 2053) (by decide +kernel)) hs_227 (List.mem_of_getElem? (i := 2055) (by decide +kernel)) rfl (by decide +kernel) rfl : e_Sn 229 11 (o_callV (e_s1 19 227 2) 2 14)) t_227_0 t_229_14
noncomputable def n_229_10 : e_Y := u_ld f_okI f_l1 n_229_11
theorem t_229_10 : e_Sn 229 10 (e_un n_229_10) := u_ldIT f_l1_eq (s_iload (i := .iload_n 1) (len := 1) hq_229 (by decide +kernel) rfl (.inr ⟨1, rfl, rfl, rfl⟩) : e_Sn 229 10 (o_load e_okI 1 11)) t_229_11
noncomputable def n_229_9 : e_Y := u_ld f_okA f_l0 n_229_10
theorem t_229_9 : e_Sn 229 9 (e_un n_229_9) := u_ldAT f_l0_eq (s_aload (i := .aload_n 0) (len := 1) hq_229 (by decide +kernel) rfl (.inr ⟨0, rfl, rfl, rfl⟩) : e_Sn 229 9 (o_load e_okR 0 10)) t_229_10
noncomputable def n_229_8 : e_Y := u_pop n_229_9
theorem t_229_8 : e_Sn 229 8 (e_un n_229_8) := u_popT (s_pop hq_229 (by decide +kernel) rfl : e_Sn 229 8 (o_pop 9)) t_229_9
noncomputable def n_229_5 : e_Y := u_callS 241 2 21 2 n_241_0 n_229_8
theorem t_229_5 : e_Sn 229 5 (e_un n_229_5) := u_callST rfl (s_callS (index := 118) hq_229 ho_229 hy_241 hp_241 hc_241 hi_241 hd_241 (List.mem_of_getElem? (i := 2021) (by decide +kernel)) hs_241 (by decide +kernel) rfl : e_Sn 229 5 (o_callS 241 2 2 8)) t_241_0 t_229_8
noncomputable def n_229_2 : e_Y := u_getf 19 1 (u_old (o_getf (e_f1 19 1) 5) n_229_5) n_229_5
theorem t_229_2 : e_Sn 229 2 (e_un n_229_2) := u_getfT (s_getf (C := er_19) (T := et_19) (N := 3) (ref := "java/util/ArrayList") (index := 48) (ci := 19) (k := 1) hq_229 ho_229 ⟨rfl, by decide, ei_19, (List.mem_of_getElem? (i := 1767) (by decide +kernel)), .inl rfl⟩ (by decide +kernel) rfl : e_Sn 229 2 (o_getf (e_f1 19 1) 5)) t_229_5
noncomputable def n_229_1 : e_Y := u_ld f_okA f_l0 n_229_2
theorem t_229_1 : e_Sn 229 1 (e_un n_229_1) := u_ldAT f_l0_eq (s_aload (i := .aload_n 0) (len := 1) hq_229 (by decide +kernel) rfl (.inr ⟨0, rfl, rfl, rfl⟩) : e_Sn 229 1 (o_load e_okR 0 2)) t_229_2
noncomputable def n_229_0 : e_Y := u_ld f_okI f_l1 n_229_1
theorem t_229_0 : e_Sn 229 0 (e_un n_229_0) := u_ldIT f_l1_eq (s_iload (i := .iload_n 1) (len := 1) hq_229 (by decide +kernel) rfl (.inr ⟨1, rfl, rfl, rfl⟩) : e_Sn 229 0 (o_load e_okI 1 1)) t_229_1
noncomputable def e_tb_229 : e_X := (e_lf 0 (e_un n_229_0))
theorem e_tk_229 : e_Tb 229 e_tb_229 := (e_lfT t_229_0)
theorem hq_236 : (e_ml[236]?).map (·.2.1) = some prog_50_method_8_code := rfl
theorem ho_236 : (e_ml[236]?).map (·.1.cls) = some "java/util/ArrayList" := rfl
theorem hr_236 : (e_ml[236]?).map (·.2.2.2) = some (some .int) := rfl
noncomputable def n_236_4 : e_Y := u_retI
theorem t_236_4 : e_Sn 236 4 (e_un n_236_4) := u_retIT (s_iret hq_236 hr_236 (by decide +kernel) : e_Sn 236 4 (o_ret e_okI))
noncomputable def n_236_1 : e_Y := u_getf 19 1 (u_old (o_getf (e_f1 19 1) 4) n_236_4) n_236_4
theorem t_236_1 : e_Sn 236 1 (e_un n_236_1) := u_getfT (s_getf (C := er_19) (T := et_19) (N := 3) (ref := "java/util/ArrayList") (index := 48) (ci := 19) (k := 1) hq_236 ho_236 ⟨rfl, by decide, ei_19, (List.mem_of_getElem? (i := 1767) (by decide +kernel)), .inl rfl⟩ (by decide +kernel) rfl : e_Sn 236 1 (o_getf (e_f1 19 1) 4)) t_236_4
noncomputable def n_236_0 : e_Y := u_ld f_okA f_l0 n_236_1
theorem t_236_0 : e_Sn 236 0 (e_un n_236_0) := u_ldAT f_l0_eq (s_aload (i := .aload_n 0) (len := 1) hq_236 (by decide +kernel) rfl (.inr ⟨0, rfl, rfl, rfl⟩) : e_Sn 236 0 (o_load e_okR 0 1)) t_236_1
noncomputable def e_tb_236 : e_X := (e_lf 0 (e_un n_236_0))
theorem e_tk_236 : e_Tb 236 e_tb_236 := (e_lfT t_236_0)
theorem hq_159 : (e_ml[159]?).map (·.2.1) = some prog_14_method_16_code := rfl
theorem ho_159 : (e_ml[159]?).map (·.1.cls) = some "PlateroomprinterModel" := rfl
theorem hr_159 : (e_ml[159]?).map (·.2.2.2) = some (some .boolean) := rfl
noncomputable def n_159_151 : e_Y := u_tab (o_ret e_okZ)
theorem t_159_151 : e_Sn 159 151 (e_un n_159_151) := u_tabT (s_zret hq_159 hr_159 (by decide +kernel) : e_Sn 159 151 (o_ret e_okZ))
noncomputable def n_159_150 : e_Y := u_push (.inl 2147483648) n_159_151
theorem t_159_150 : e_Sn 159 150 (e_un n_159_150) := u_pushT (s_iconst (n := (0)) hq_159 (by decide +kernel) rfl ⟨by decide +kernel, by decide +kernel⟩ : e_Sn 159 150 (o_push (.inl 2147483648) 151)) t_159_151
noncomputable def n_159_143 : e_Y := u_if y_ne0 (u_old2 (o_ifeq 150 146) 150 n_159_150 (u_at 146)) n_159_150 (u_at 146)
theorem t_159_143 : e_Sn 159 143 (e_un n_159_143) := u_ifeqT rfl (s_ifeq (off := (7)) hq_159 (by decide +kernel) rfl rfl : e_Sn 159 143 (o_ifeq 150 146)) t_159_150 u_atT
noncomputable def n_159_141 : e_Y := u_ld f_okI f_l5 n_159_143
theorem t_159_141 : e_Sn 159 141 (e_un n_159_141) := u_ldIT f_l5_eq (s_iload (i := .iload 5) (len := 2) hq_159 (by decide +kernel) rfl (.inl ⟨rfl, rfl⟩) : e_Sn 159 141 (o_load e_okI 5 143)) t_159_143
noncomputable def n_159_138 : e_Y := n_159_151
theorem t_159_138 : e_Sn 159 138 (e_un n_159_138) := u_gotoT (s_goto (off := (13)) hq_159 (by decide +kernel) rfl : e_Sn 159 138 (o_goto 151)) t_159_151
noncomputable def n_159_137 : e_Y := u_push (.inl 2147483648) n_159_138
theorem t_159_137 : e_Sn 159 137 (e_un n_159_137) := u_pushT (s_iconst (n := (0)) hq_159 (by decide +kernel) rfl ⟨by decide +kernel, by decide +kernel⟩ : e_Sn 159 137 (o_push (.inl 2147483648) 138)) t_159_138
noncomputable def n_159_134 : e_Y := n_159_151
theorem t_159_134 : e_Sn 159 134 (e_un n_159_134) := u_gotoT (s_goto (off := (17)) hq_159 (by decide +kernel) rfl : e_Sn 159 134 (o_goto 151)) t_159_151
noncomputable def n_159_133 : e_Y := u_push (.inl 2147483649) n_159_134
theorem t_159_133 : e_Sn 159 133 (e_un n_159_133) := u_pushT (s_iconst (n := (1)) hq_159 (by decide +kernel) rfl ⟨by decide +kernel, by decide +kernel⟩ : e_Sn 159 133 (o_push (.inl 2147483649) 134)) t_159_134
noncomputable def n_159_130 : e_Y := u_jmp y_ne (u_old2 (o_ceq 133 137) 133 n_159_133 n_159_137) n_159_133 n_159_137
theorem t_159_130 : e_Sn 159 130 (e_un n_159_130) := u_ceqT rfl (s_cne (off := (7)) hq_159 (by decide +kernel) rfl rfl : e_Sn 159 130 (o_ceq 133 137)) t_159_133 t_159_137
noncomputable def n_159_129 : e_Y := u_push (.inl 2147483649) n_159_130
theorem t_159_129 : e_Sn 159 129 (e_un n_159_129) := u_pushT (s_iconst (n := (1)) hq_159 (by decide +kernel) rfl ⟨by decide +kernel, by decide +kernel⟩ : e_Sn 159 129 (o_push (.inl 2147483649) 130)) t_159_130
noncomputable def n_159_128 : e_Y := u_old (o_irem 129) n_159_129
theorem t_159_128 : e_Sn 159 128 (e_un n_159_128) := u_oldT (s_irem hq_159 (by decide +kernel) rfl : e_Sn 159 128 (o_irem 129)) t_159_129 e_cg_irem
noncomputable def n_159_127 : e_Y := u_push (.inl 2147483650) n_159_128
theorem t_159_127 : e_Sn 159 127 (e_un n_159_127) := u_pushT (s_iconst (n := (2)) hq_159 (by decide +kernel) rfl ⟨by decide +kernel, by decide +kernel⟩ : e_Sn 159 127 (o_push (.inl 2147483650) 128)) t_159_128
noncomputable def n_159_125 : e_Y := u_ld f_okI f_l4 n_159_127
theorem t_159_125 : e_Sn 159 125 (e_un n_159_125) := u_ldIT f_l4_eq (s_iload (i := .iload 4) (len := 2) hq_159 (by decide +kernel) rfl (.inl ⟨rfl, rfl⟩) : e_Sn 159 125 (o_load e_okI 4 127)) t_159_127
noncomputable def n_159_122 : e_Y := u_if y_ne0 (u_old2 (o_ifeq 125 141) 125 n_159_125 n_159_141) n_159_125 n_159_141
theorem t_159_122 : e_Sn 159 122 (e_un n_159_122) := u_ifeqT rfl (s_ifne (off := (19)) hq_159 (by decide +kernel) rfl rfl : e_Sn 159 122 (o_ifeq 125 141)) t_159_125 t_159_141
noncomputable def n_159_121 : e_Y := u_ld f_okI f_l1 n_159_122
theorem t_159_121 : e_Sn 159 121 (e_un n_159_121) := u_ldIT f_l1_eq (s_iload (i := .iload_n 1) (len := 1) hq_159 (by decide +kernel) rfl (.inr ⟨1, rfl, rfl, rfl⟩) : e_Sn 159 121 (o_load e_okI 1 122)) t_159_122
noncomputable def n_159_118 : e_Y := (u_at 9)
theorem t_159_118 : e_Sn 159 118 (e_un n_159_118) := u_gotoT (s_goto (off := (-109)) hq_159 (by decide +kernel) rfl : e_Sn 159 118 (o_goto 9)) u_atT
noncomputable def n_159_115 : e_Y := u_inc f_l6 f_s6 1 n_159_118
theorem t_159_115 : e_Sn 159 115 (e_un n_159_115) := u_incT f_l6_eq (fun _ _ _ => f_s6_eq) (s_iinc (zz := (1)) hq_159 (by decide +kernel) rfl (by decide +kernel) ⟨by decide, by decide⟩ : e_Sn 159 115 (o_iinc 6 1 118)) t_159_118
noncomputable def n_159_112 : e_Y := (u_at 35)
theorem t_159_112 : e_Sn 159 112 (e_un n_159_112) := u_gotoT (s_goto (off := (-77)) hq_159 (by decide +kernel) rfl : e_Sn 159 112 (o_goto 35)) u_atT
noncomputable def n_159_109 : e_Y := u_inc f_l8 f_s8 1 n_159_112
theorem t_159_109 : e_Sn 159 109 (e_un n_159_109) := u_incT f_l8_eq (fun _ _ _ => f_s8_eq) (s_iinc (zz := (1)) hq_159 (by decide +kernel) rfl (by decide +kernel) ⟨by decide, by decide⟩ : e_Sn 159 109 (o_iinc 8 1 112)) t_159_112
noncomputable def n_159_107 : e_Y := u_st f_okI f_s5 n_159_109
theorem t_159_107 : e_Sn 159 107 (e_un n_159_107) := u_stIT (fun _ _ _ => f_s5_eq) (s_istore (i := .istore 5) (len := 2) hq_159 (by decide +kernel) rfl (.inl ⟨rfl, rfl⟩) : e_Sn 159 107 (o_store e_okI 5 109)) t_159_109
noncomputable def n_159_106 : e_Y := u_bin a_iadd (u_old (o_iadd 107) n_159_107) n_159_107
theorem t_159_106 : e_Sn 159 106 (e_un n_159_106) := u_iaddT (s_iadd hq_159 (by decide +kernel) rfl : e_Sn 159 106 (o_iadd 107)) t_159_107
noncomputable def n_159_104 : e_Y := u_ld f_okI f_l9 n_159_106
theorem t_159_104 : e_Sn 159 104 (e_un n_159_104) := u_ldIT f_l9_eq (s_iload (i := .iload 9) (len := 2) hq_159 (by decide +kernel) rfl (.inl ⟨rfl, rfl⟩) : e_Sn 159 104 (o_load e_okI 9 106)) t_159_106
noncomputable def n_159_102 : e_Y := u_ld f_okI f_l5 n_159_104
theorem t_159_102 : e_Sn 159 102 (e_un n_159_102) := u_ldIT f_l5_eq (s_iload (i := .iload 5) (len := 2) hq_159 (by decide +kernel) rfl (.inl ⟨rfl, rfl⟩) : e_Sn 159 102 (o_load e_okI 5 104)) t_159_104
noncomputable def n_159_100 : e_Y := u_st f_okI f_s4 n_159_102
theorem t_159_100 : e_Sn 159 100 (e_un n_159_100) := u_stIT (fun _ _ _ => f_s4_eq) (s_istore (i := .istore 4) (len := 2) hq_159 (by decide +kernel) rfl (.inl ⟨rfl, rfl⟩) : e_Sn 159 100 (o_store e_okI 4 102)) t_159_102
noncomputable def n_159_99 : e_Y := u_bin a_iadd (u_old (o_iadd 100) n_159_100) n_159_100
theorem t_159_99 : e_Sn 159 99 (e_un n_159_99) := u_iaddT (s_iadd hq_159 (by decide +kernel) rfl : e_Sn 159 99 (o_iadd 100)) t_159_100
noncomputable def n_159_96 : e_Y := u_callS 218 1 20 1 n_218_0 n_159_99
theorem t_159_96 : e_Sn 159 96 (e_un n_159_96) := u_callST rfl (s_callSF (index := 100) hq_159 ho_159 hy_218 hp_218 hc_218 hi_218 hd_218 (List.mem_of_getElem? (i := 2472) (by decide +kernel)) hs_218 (by decide +kernel) rfl : e_Sn 159 96 (o_callS 218 1 1 99)) t_218_0 t_159_99
noncomputable def n_159_94 : e_Y := u_ld f_okI f_l9 n_159_96
theorem t_159_94 : e_Sn 159 94 (e_un n_159_94) := u_ldIT f_l9_eq (s_iload (i := .iload 9) (len := 2) hq_159 (by decide +kernel) rfl (.inl ⟨rfl, rfl⟩) : e_Sn 159 94 (o_load e_okI 9 96)) t_159_96
noncomputable def n_159_92 : e_Y := u_ld f_okI f_l4 n_159_94
theorem t_159_92 : e_Sn 159 92 (e_un n_159_92) := u_ldIT f_l4_eq (s_iload (i := .iload 4) (len := 2) hq_159 (by decide +kernel) rfl (.inl ⟨rfl, rfl⟩) : e_Sn 159 92 (o_load e_okI 4 94)) t_159_94
noncomputable def n_159_90 : e_Y := u_st f_okI f_s9 n_159_92
theorem t_159_90 : e_Sn 159 90 (e_un n_159_90) := u_stIT (fun _ _ _ => f_s9_eq) (s_istore (i := .istore 9) (len := 2) hq_159 (by decide +kernel) rfl (.inl ⟨rfl, rfl⟩) : e_Sn 159 90 (o_store e_okI 9 92)) t_159_92
noncomputable def n_159_87 : e_Y := u_callS 183 7 26 4 n_183_0 n_159_90
theorem t_159_87 : e_Sn 159 87 (e_un n_159_87) := u_callST rfl (s_callS (index := 96) hq_159 ho_159 hy_183 hp_183 hc_183 hi_183 hd_183 (List.mem_of_getElem? (i := 2469) (by decide +kernel)) hs_183 (by decide +kernel) rfl : e_Sn 159 87 (o_callS 183 7 4 90)) t_183_0 t_159_90
noncomputable def n_159_86 : e_Y := u_bin a_iadd (u_old (o_iadd 87) n_159_87) n_159_87
theorem t_159_86 : e_Sn 159 86 (e_un n_159_86) := u_iaddT (s_iadd hq_159 (by decide +kernel) rfl : e_Sn 159 86 (o_iadd 87)) t_159_87
noncomputable def n_159_84 : e_Y := u_push (.inl 2147483656) n_159_86
theorem t_159_84 : e_Sn 159 84 (e_un n_159_84) := u_pushT (s_bipush (n := (8)) hq_159 (by decide +kernel) rfl ⟨by decide +kernel, by decide +kernel⟩ : e_Sn 159 84 (o_push (.inl 2147483656) 86)) t_159_86
noncomputable def n_159_83 : e_Y := u_bin a_imul (u_old (o_imul 84) n_159_84) n_159_84
theorem t_159_83 : e_Sn 159 83 (e_un n_159_83) := u_imulT (s_imul hq_159 (by decide +kernel) rfl : e_Sn 159 83 (o_imul 84)) t_159_84
noncomputable def n_159_82 : e_Y := u_ld f_okI f_l3 n_159_83
theorem t_159_82 : e_Sn 159 82 (e_un n_159_82) := u_ldIT f_l3_eq (s_iload (i := .iload_n 3) (len := 1) hq_159 (by decide +kernel) rfl (.inr ⟨3, rfl, rfl, rfl⟩) : e_Sn 159 82 (o_load e_okI 3 83)) t_159_83
noncomputable def n_159_80 : e_Y := u_push (.inl 2147483664) n_159_82
theorem t_159_80 : e_Sn 159 80 (e_un n_159_80) := u_pushT (s_bipush (n := (16)) hq_159 (by decide +kernel) rfl ⟨by decide +kernel, by decide +kernel⟩ : e_Sn 159 80 (o_push (.inl 2147483664) 82)) t_159_82
noncomputable def n_159_79 : e_Y := u_bin a_iadd (u_old (o_iadd 80) n_159_80) n_159_80
theorem t_159_79 : e_Sn 159 79 (e_un n_159_79) := u_iaddT (s_iadd hq_159 (by decide +kernel) rfl : e_Sn 159 79 (o_iadd 80)) t_159_80
noncomputable def n_159_77 : e_Y := u_push (.inl 2147483656) n_159_79
theorem t_159_77 : e_Sn 159 77 (e_un n_159_77) := u_pushT (s_bipush (n := (8)) hq_159 (by decide +kernel) rfl ⟨by decide +kernel, by decide +kernel⟩ : e_Sn 159 77 (o_push (.inl 2147483656) 79)) t_159_79
noncomputable def n_159_76 : e_Y := u_bin a_imul (u_old (o_imul 77) n_159_77) n_159_77
theorem t_159_76 : e_Sn 159 76 (e_un n_159_76) := u_imulT (s_imul hq_159 (by decide +kernel) rfl : e_Sn 159 76 (o_imul 77)) t_159_77
noncomputable def n_159_75 : e_Y := u_ld f_okI f_l2 n_159_76
theorem t_159_75 : e_Sn 159 75 (e_un n_159_75) := u_ldIT f_l2_eq (s_iload (i := .iload_n 2) (len := 1) hq_159 (by decide +kernel) rfl (.inr ⟨2, rfl, rfl, rfl⟩) : e_Sn 159 75 (o_load e_okI 2 76)) t_159_76
noncomputable def n_159_73 : e_Y := u_push (.inl 2147483664) n_159_75
theorem t_159_73 : e_Sn 159 73 (e_un n_159_73) := u_pushT (s_bipush (n := (16)) hq_159 (by decide +kernel) rfl ⟨by decide +kernel, by decide +kernel⟩ : e_Sn 159 73 (o_push (.inl 2147483664) 75)) t_159_75
noncomputable def n_159_70 : e_Y := u_old (o_cast 100 73) n_159_73
theorem t_159_70 : e_Sn 159 70 (e_un n_159_70) := u_oldT (s_cast (index := 95) hq_159 ho_159 (List.mem_of_getElem? (i := 2032) (by decide +kernel)) (.inr ⟨rfl, rfl⟩) (by decide +kernel) rfl : e_Sn 159 70 (o_cast 100 73)) t_159_73 (e_cg_cast 100)
noncomputable def n_159_67 : e_Y := u_callV 19 229 2 21 2 n_229_0 n_159_70
theorem t_159_67 : e_Sn 159 67 (e_un n_159_67) := u_callVT rfl (s_callV (ci := 19) (C := er_19) (T := et_19) (N := 3) (index := 78) hq_159 ho_159 hy_229 hp_229 hc_229 hi_229 hd_229 (List.mem_of_getElem? (i := 2066) (by decide +kernel)) hs_229 (List.mem_of_getElem? (i := 2051) (by decide +kernel)) rfl (by decide +kernel) rfl : e_Sn 159 67 (o_callV (e_s1 19 229 2) 2 70)) t_229_0 t_159_70
noncomputable def n_159_66 : e_Y := u_old (o_irem 67) n_159_67
theorem t_159_66 : e_Sn 159 66 (e_un n_159_66) := u_oldT (s_irem hq_159 (by decide +kernel) rfl : e_Sn 159 66 (o_irem 67)) t_159_67 e_cg_irem
noncomputable def n_159_63 : e_Y := u_callV 19 236 1 20 1 n_236_0 n_159_66
theorem t_159_63 : e_Sn 159 63 (e_un n_159_63) := u_callVT rfl (s_callV (ci := 19) (C := er_19) (T := et_19) (N := 3) (index := 74) hq_159 ho_159 hy_236 hp_236 hc_236 hi_236 hd_236 (List.mem_of_getElem? (i := 2000) (by decide +kernel)) hs_236 (List.mem_of_getElem? (i := 2002) (by decide +kernel)) rfl (by decide +kernel) rfl : e_Sn 159 63 (o_callV (e_s1 19 236 1) 1 66)) t_236_0 t_159_66
noncomputable def n_159_61 : e_Y := u_ld f_okA f_l7 n_159_63
theorem t_159_61 : e_Sn 159 61 (e_un n_159_61) := u_ldAT f_l7_eq (s_aload (i := .aload 7) (len := 2) hq_159 (by decide +kernel) rfl (.inl ⟨rfl, rfl⟩) : e_Sn 159 61 (o_load e_okR 7 63)) t_159_63
noncomputable def n_159_60 : e_Y := u_bin a_iadd (u_old (o_iadd 61) n_159_61) n_159_61
theorem t_159_60 : e_Sn 159 60 (e_un n_159_60) := u_iaddT (s_iadd hq_159 (by decide +kernel) rfl : e_Sn 159 60 (o_iadd 61)) t_159_61
noncomputable def n_159_59 : e_Y := u_push (.inl 2147483649) n_159_60
theorem t_159_59 : e_Sn 159 59 (e_un n_159_59) := u_pushT (s_iconst (n := (1)) hq_159 (by decide +kernel) rfl ⟨by decide +kernel, by decide +kernel⟩ : e_Sn 159 59 (o_push (.inl 2147483649) 60)) t_159_60
noncomputable def n_159_57 : e_Y := u_ld f_okI f_l8 n_159_59
theorem t_159_57 : e_Sn 159 57 (e_un n_159_57) := u_ldIT f_l8_eq (s_iload (i := .iload 8) (len := 2) hq_159 (by decide +kernel) rfl (.inl ⟨rfl, rfl⟩) : e_Sn 159 57 (o_load e_okI 8 59)) t_159_59
noncomputable def n_159_55 : e_Y := u_ld f_okA f_l7 n_159_57
theorem t_159_55 : e_Sn 159 55 (e_un n_159_55) := u_ldAT f_l7_eq (s_aload (i := .aload 7) (len := 2) hq_159 (by decide +kernel) rfl (.inl ⟨rfl, rfl⟩) : e_Sn 159 55 (o_load e_okR 7 57)) t_159_57
noncomputable def n_159_52 : e_Y := u_old (o_cast 100 55) n_159_55
theorem t_159_52 : e_Sn 159 52 (e_un n_159_52) := u_oldT (s_cast (index := 95) hq_159 ho_159 (List.mem_of_getElem? (i := 2032) (by decide +kernel)) (.inr ⟨rfl, rfl⟩) (by decide +kernel) rfl : e_Sn 159 52 (o_cast 100 55)) t_159_55 (e_cg_cast 100)
noncomputable def n_159_49 : e_Y := u_callV 19 229 2 21 2 n_229_0 n_159_52
theorem t_159_49 : e_Sn 159 49 (e_un n_159_49) := u_callVT rfl (s_callV (ci := 19) (C := er_19) (T := et_19) (N := 3) (index := 78) hq_159 ho_159 hy_229 hp_229 hc_229 hi_229 hd_229 (List.mem_of_getElem? (i := 2066) (by decide +kernel)) hs_229 (List.mem_of_getElem? (i := 2051) (by decide +kernel)) rfl (by decide +kernel) rfl : e_Sn 159 49 (o_callV (e_s1 19 229 2) 2 52)) t_229_0 t_159_52
noncomputable def n_159_47 : e_Y := u_ld f_okI f_l8 n_159_49
theorem t_159_47 : e_Sn 159 47 (e_un n_159_47) := u_ldIT f_l8_eq (s_iload (i := .iload 8) (len := 2) hq_159 (by decide +kernel) rfl (.inl ⟨rfl, rfl⟩) : e_Sn 159 47 (o_load e_okI 8 49)) t_159_49
noncomputable def n_159_45 : e_Y := u_ld f_okA f_l7 n_159_47
theorem t_159_45 : e_Sn 159 45 (e_un n_159_45) := u_ldAT f_l7_eq (s_aload (i := .aload 7) (len := 2) hq_159 (by decide +kernel) rfl (.inl ⟨rfl, rfl⟩) : e_Sn 159 45 (o_load e_okR 7 47)) t_159_47
noncomputable def n_159_42 : e_Y := u_jmp y_ge (u_old2 (o_clt 45 115) 45 n_159_45 n_159_115) n_159_45 n_159_115
theorem t_159_42 : e_Sn 159 42 (e_un n_159_42) := u_cltT rfl (s_cge (off := (73)) hq_159 (by decide +kernel) rfl rfl : e_Sn 159 42 (o_clt 45 115)) t_159_45 t_159_115
noncomputable def n_159_39 : e_Y := u_callV 19 236 1 20 1 n_236_0 n_159_42
theorem t_159_39 : e_Sn 159 39 (e_un n_159_39) := u_callVT rfl (s_callV (ci := 19) (C := er_19) (T := et_19) (N := 3) (index := 74) hq_159 ho_159 hy_236 hp_236 hc_236 hi_236 hd_236 (List.mem_of_getElem? (i := 2000) (by decide +kernel)) hs_236 (List.mem_of_getElem? (i := 2002) (by decide +kernel)) rfl (by decide +kernel) rfl : e_Sn 159 39 (o_callV (e_s1 19 236 1) 1 42)) t_236_0 t_159_42
noncomputable def n_159_37 : e_Y := u_ld f_okA f_l7 n_159_39
theorem t_159_37 : e_Sn 159 37 (e_un n_159_37) := u_ldAT f_l7_eq (s_aload (i := .aload 7) (len := 2) hq_159 (by decide +kernel) rfl (.inl ⟨rfl, rfl⟩) : e_Sn 159 37 (o_load e_okR 7 39)) t_159_39
noncomputable def n_159_35 : e_Y := u_ld f_okI f_l8 n_159_37
theorem t_159_35 : e_Sn 159 35 (e_un n_159_35) := u_ldIT f_l8_eq (s_iload (i := .iload 8) (len := 2) hq_159 (by decide +kernel) rfl (.inl ⟨rfl, rfl⟩) : e_Sn 159 35 (o_load e_okI 8 37)) t_159_37
noncomputable def n_159_33 : e_Y := u_st f_okI f_s8 n_159_35
theorem t_159_33 : e_Sn 159 33 (e_un n_159_33) := u_stIT (fun _ _ _ => f_s8_eq) (s_istore (i := .istore 8) (len := 2) hq_159 (by decide +kernel) rfl (.inl ⟨rfl, rfl⟩) : e_Sn 159 33 (o_store e_okI 8 35)) t_159_35
noncomputable def n_159_32 : e_Y := u_push (.inl 2147483648) n_159_33
theorem t_159_32 : e_Sn 159 32 (e_un n_159_32) := u_pushT (s_iconst (n := (0)) hq_159 (by decide +kernel) rfl ⟨by decide +kernel, by decide +kernel⟩ : e_Sn 159 32 (o_push (.inl 2147483648) 33)) t_159_33
noncomputable def n_159_30 : e_Y := u_st f_okA f_s7 n_159_32
theorem t_159_30 : e_Sn 159 30 (e_un n_159_30) := u_stAT (fun _ _ _ => f_s7_eq) (s_astore (i := .astore 7) (len := 2) hq_159 (by decide +kernel) rfl (.inl ⟨rfl, rfl⟩) : e_Sn 159 30 (o_store e_okR 7 32)) t_159_32
noncomputable def n_159_27 : e_Y := u_getf 14 0 (u_old (o_getf (e_f1 14 0) 30) n_159_30) n_159_30
theorem t_159_27 : e_Sn 159 27 (e_un n_159_27) := u_getfT (s_getf (C := er_14) (T := et_14) (N := 2) (ref := "PlateroomprinterModel$Ring") (index := 92) (ci := 14) (k := 0) hq_159 ho_159 ⟨rfl, by decide, ei_14, (List.mem_of_getElem? (i := 2081) (by decide +kernel)), .inl rfl⟩ (by decide +kernel) rfl : e_Sn 159 27 (o_getf (e_f1 14 0) 30)) t_159_30
noncomputable def n_159_24 : e_Y := u_old (o_cast 14 27) n_159_27
theorem t_159_24 : e_Sn 159 24 (e_un n_159_24) := u_oldT (s_cast (index := 82) hq_159 ho_159 (List.mem_of_getElem? (i := 2067) (by decide +kernel)) (.inl ⟨by decide, rfl⟩) (by decide +kernel) rfl : e_Sn 159 24 (o_cast 14 27)) t_159_27 (e_cg_cast 14)
noncomputable def n_159_21 : e_Y := u_callV 19 229 2 21 2 n_229_0 n_159_24
theorem t_159_21 : e_Sn 159 21 (e_un n_159_21) := u_callVT rfl (s_callV (ci := 19) (C := er_19) (T := et_19) (N := 3) (index := 78) hq_159 ho_159 hy_229 hp_229 hc_229 hi_229 hd_229 (List.mem_of_getElem? (i := 2066) (by decide +kernel)) hs_229 (List.mem_of_getElem? (i := 2051) (by decide +kernel)) rfl (by decide +kernel) rfl : e_Sn 159 21 (o_callV (e_s1 19 229 2) 2 24)) t_229_0 t_159_24
noncomputable def n_159_19 : e_Y := u_ld f_okI f_l6 n_159_21
theorem t_159_19 : e_Sn 159 19 (e_un n_159_19) := u_ldIT f_l6_eq (s_iload (i := .iload 6) (len := 2) hq_159 (by decide +kernel) rfl (.inl ⟨rfl, rfl⟩) : e_Sn 159 19 (o_load e_okI 6 21)) t_159_21
noncomputable def n_159_18 : e_Y := u_ld f_okA f_l0 n_159_19
theorem t_159_18 : e_Sn 159 18 (e_un n_159_18) := u_ldAT f_l0_eq (s_aload (i := .aload_n 0) (len := 1) hq_159 (by decide +kernel) rfl (.inr ⟨0, rfl, rfl, rfl⟩) : e_Sn 159 18 (o_load e_okR 0 19)) t_159_19
noncomputable def n_159_15 : e_Y := u_jmp y_ge (u_old2 (o_clt 18 121) 18 n_159_18 n_159_121) n_159_18 n_159_121
theorem t_159_15 : e_Sn 159 15 (e_un n_159_15) := u_cltT rfl (s_cge (off := (106)) hq_159 (by decide +kernel) rfl rfl : e_Sn 159 15 (o_clt 18 121)) t_159_18 t_159_121
noncomputable def n_159_12 : e_Y := u_callV 19 236 1 20 1 n_236_0 n_159_15
theorem t_159_12 : e_Sn 159 12 (e_un n_159_12) := u_callVT rfl (s_callV (ci := 19) (C := er_19) (T := et_19) (N := 3) (index := 74) hq_159 ho_159 hy_236 hp_236 hc_236 hi_236 hd_236 (List.mem_of_getElem? (i := 2000) (by decide +kernel)) hs_236 (List.mem_of_getElem? (i := 2002) (by decide +kernel)) rfl (by decide +kernel) rfl : e_Sn 159 12 (o_callV (e_s1 19 236 1) 1 15)) t_236_0 t_159_15
noncomputable def n_159_11 : e_Y := u_ld f_okA f_l0 n_159_12
theorem t_159_11 : e_Sn 159 11 (e_un n_159_11) := u_ldAT f_l0_eq (s_aload (i := .aload_n 0) (len := 1) hq_159 (by decide +kernel) rfl (.inr ⟨0, rfl, rfl, rfl⟩) : e_Sn 159 11 (o_load e_okR 0 12)) t_159_12
noncomputable def n_159_9 : e_Y := u_ld f_okI f_l6 n_159_11
theorem t_159_9 : e_Sn 159 9 (e_un n_159_9) := u_ldIT f_l6_eq (s_iload (i := .iload 6) (len := 2) hq_159 (by decide +kernel) rfl (.inl ⟨rfl, rfl⟩) : e_Sn 159 9 (o_load e_okI 6 11)) t_159_11
noncomputable def n_159_7 : e_Y := u_st f_okI f_s6 n_159_9
theorem t_159_7 : e_Sn 159 7 (e_un n_159_7) := u_stIT (fun _ _ _ => f_s6_eq) (s_istore (i := .istore 6) (len := 2) hq_159 (by decide +kernel) rfl (.inl ⟨rfl, rfl⟩) : e_Sn 159 7 (o_store e_okI 6 9)) t_159_9
noncomputable def n_159_6 : e_Y := u_push (.inl 2147483648) n_159_7
theorem t_159_6 : e_Sn 159 6 (e_un n_159_6) := u_pushT (s_iconst (n := (0)) hq_159 (by decide +kernel) rfl ⟨by decide +kernel, by decide +kernel⟩ : e_Sn 159 6 (o_push (.inl 2147483648) 7)) t_159_7
noncomputable def n_159_4 : e_Y := u_st f_okI f_s5 n_159_6
theorem t_159_4 : e_Sn 159 4 (e_un n_159_4) := u_stIT (fun _ _ _ => f_s5_eq) (s_istore (i := .istore 5) (len := 2) hq_159 (by decide +kernel) rfl (.inl ⟨rfl, rfl⟩) : e_Sn 159 4 (o_store e_okI 5 6)) t_159_6
noncomputable def n_159_3 : e_Y := u_push (.inl 2147483648) n_159_4
theorem t_159_3 : e_Sn 159 3 (e_un n_159_3) := u_pushT (s_iconst (n := (0)) hq_159 (by decide +kernel) rfl ⟨by decide +kernel, by decide +kernel⟩ : e_Sn 159 3 (o_push (.inl 2147483648) 4)) t_159_4
noncomputable def n_159_1 : e_Y := u_st f_okI f_s4 n_159_3
theorem t_159_1 : e_Sn 159 1 (e_un n_159_1) := u_stIT (fun _ _ _ => f_s4_eq) (s_istore (i := .istore 4) (len := 2) hq_159 (by decide +kernel) rfl (.inl ⟨rfl, rfl⟩) : e_Sn 159 1 (o_store e_okI 4 3)) t_159_3
noncomputable def n_159_0 : e_Y := u_push (.inl 2147483648) n_159_1
theorem t_159_0 : e_Sn 159 0 (e_un n_159_0) := u_pushT (s_iconst (n := (0)) hq_159 (by decide +kernel) rfl ⟨by decide +kernel, by decide +kernel⟩ : e_Sn 159 0 (o_push (.inl 2147483648) 1)) t_159_1
noncomputable def e_tb_159 : e_X := (e_br 9 (e_lf 0 (e_un n_159_0)) (e_br 35 (e_lf 9 (e_un n_159_9)) (e_lf 35 (e_un n_159_35))))
theorem e_tk_159 : e_Tb 159 e_tb_159 := (e_brT (e_lfT t_159_0) (e_brT (e_lfT t_159_9) (e_lfT t_159_35)))
theorem hq_148 : (e_ml[148]?).map (·.2.1) = some prog_14_method_17_code := rfl
theorem ho_148 : (e_ml[148]?).map (·.1.cls) = some "PlateroomprinterModel" := rfl
theorem hr_148 : (e_ml[148]?).map (·.2.2.2) = some (some (.array .boolean)) := rfl
noncomputable def n_148_37 : e_Y := u_retA
theorem t_148_37 : e_Sn 148 37 (e_un n_148_37) := u_retAT (s_aret (.inr ⟨_, rfl⟩) hq_148 hr_148 (by decide +kernel) : e_Sn 148 37 (o_ret e_okR))
noncomputable def n_148_36 : e_Y := u_ld f_okA f_l2 n_148_37
theorem t_148_36 : e_Sn 148 36 (e_un n_148_36) := u_ldAT f_l2_eq (s_aload (i := .aload_n 2) (len := 1) hq_148 (by decide +kernel) rfl (.inr ⟨2, rfl, rfl, rfl⟩) : e_Sn 148 36 (o_load e_okR 2 37)) t_148_37
noncomputable def n_148_33 : e_Y := (u_at 8)
theorem t_148_33 : e_Sn 148 33 (e_un n_148_33) := u_gotoT (s_goto (off := (-25)) hq_148 (by decide +kernel) rfl : e_Sn 148 33 (o_goto 8)) u_atT
noncomputable def n_148_30 : e_Y := u_inc f_l3 f_s3 1 n_148_33
theorem t_148_30 : e_Sn 148 30 (e_un n_148_30) := u_incT f_l3_eq (fun _ _ _ => f_s3_eq) (s_iinc (zz := (1)) hq_148 (by decide +kernel) rfl (by decide +kernel) ⟨by decide, by decide⟩ : e_Sn 148 30 (o_iinc 3 1 33)) t_148_33
noncomputable def n_148_29 : e_Y := u_old (o_ast 1 e_okZ 30) n_148_30
theorem t_148_29 : e_Sn 148 29 (e_un n_148_29) := u_oldT (s_zast hq_148 (by decide +kernel) rfl : e_Sn 148 29 (o_ast 1 e_okZ 30)) t_148_30 (e_cg_ast 1 e_okZ)
noncomputable def n_148_26 : e_Y := u_callS 159 10 29 4 n_159_0 n_148_29
theorem t_148_26 : e_Sn 148 26 (e_un n_148_26) := u_callST rfl (s_callS (index := 103) hq_148 ho_148 hy_159 hp_159 hc_159 hi_159 hd_159 (List.mem_of_getElem? (i := 2466) (by decide +kernel)) hs_159 (by decide +kernel) rfl : e_Sn 148 26 (o_callS 159 10 4 29)) t_159_0 t_148_29
noncomputable def n_148_25 : e_Y := u_old (o_idiv 26) n_148_26
theorem t_148_25 : e_Sn 148 25 (e_un n_148_25) := u_oldT (s_idiv hq_148 (by decide +kernel) rfl : e_Sn 148 25 (o_idiv 26)) t_148_26 e_cg_idiv
noncomputable def n_148_23 : e_Y := u_push (.inl 2147483680) n_148_25
theorem t_148_23 : e_Sn 148 23 (e_un n_148_23) := u_pushT (s_bipush (n := (32)) hq_148 (by decide +kernel) rfl ⟨by decide +kernel, by decide +kernel⟩ : e_Sn 148 23 (o_push (.inl 2147483680) 25)) t_148_25
noncomputable def n_148_22 : e_Y := u_ld f_okI f_l3 n_148_23
theorem t_148_22 : e_Sn 148 22 (e_un n_148_22) := u_ldIT f_l3_eq (s_iload (i := .iload_n 3) (len := 1) hq_148 (by decide +kernel) rfl (.inr ⟨3, rfl, rfl, rfl⟩) : e_Sn 148 22 (o_load e_okI 3 23)) t_148_23
noncomputable def n_148_21 : e_Y := u_old (o_irem 22) n_148_22
theorem t_148_21 : e_Sn 148 21 (e_un n_148_21) := u_oldT (s_irem hq_148 (by decide +kernel) rfl : e_Sn 148 21 (o_irem 22)) t_148_22 e_cg_irem
noncomputable def n_148_19 : e_Y := u_push (.inl 2147483680) n_148_21
theorem t_148_19 : e_Sn 148 19 (e_un n_148_19) := u_pushT (s_bipush (n := (32)) hq_148 (by decide +kernel) rfl ⟨by decide +kernel, by decide +kernel⟩ : e_Sn 148 19 (o_push (.inl 2147483680) 21)) t_148_21
noncomputable def n_148_18 : e_Y := u_ld f_okI f_l3 n_148_19
theorem t_148_18 : e_Sn 148 18 (e_un n_148_18) := u_ldIT f_l3_eq (s_iload (i := .iload_n 3) (len := 1) hq_148 (by decide +kernel) rfl (.inr ⟨3, rfl, rfl, rfl⟩) : e_Sn 148 18 (o_load e_okI 3 19)) t_148_19
noncomputable def n_148_17 : e_Y := u_ld f_okI f_l1 n_148_18
theorem t_148_17 : e_Sn 148 17 (e_un n_148_17) := u_ldIT f_l1_eq (s_iload (i := .iload_n 1) (len := 1) hq_148 (by decide +kernel) rfl (.inr ⟨1, rfl, rfl, rfl⟩) : e_Sn 148 17 (o_load e_okI 1 18)) t_148_18
noncomputable def n_148_16 : e_Y := u_ld f_okA f_l0 n_148_17
theorem t_148_16 : e_Sn 148 16 (e_un n_148_16) := u_ldAT f_l0_eq (s_aload (i := .aload_n 0) (len := 1) hq_148 (by decide +kernel) rfl (.inr ⟨0, rfl, rfl, rfl⟩) : e_Sn 148 16 (o_load e_okR 0 17)) t_148_17
noncomputable def n_148_15 : e_Y := u_ld f_okI f_l3 n_148_16
theorem t_148_15 : e_Sn 148 15 (e_un n_148_15) := u_ldIT f_l3_eq (s_iload (i := .iload_n 3) (len := 1) hq_148 (by decide +kernel) rfl (.inr ⟨3, rfl, rfl, rfl⟩) : e_Sn 148 15 (o_load e_okI 3 16)) t_148_16
noncomputable def n_148_14 : e_Y := u_ld f_okA f_l2 n_148_15
theorem t_148_14 : e_Sn 148 14 (e_un n_148_14) := u_ldAT f_l2_eq (s_aload (i := .aload_n 2) (len := 1) hq_148 (by decide +kernel) rfl (.inr ⟨2, rfl, rfl, rfl⟩) : e_Sn 148 14 (o_load e_okR 2 15)) t_148_15
noncomputable def n_148_11 : e_Y := u_jmp y_ge (u_old2 (o_clt 14 36) 14 n_148_14 n_148_36) n_148_14 n_148_36
theorem t_148_11 : e_Sn 148 11 (e_un n_148_11) := u_cltT rfl (s_cge (off := (25)) hq_148 (by decide +kernel) rfl rfl : e_Sn 148 11 (o_clt 14 36)) t_148_14 t_148_36
noncomputable def n_148_10 : e_Y := u_old (o_alen e_fcs 11) n_148_11
theorem t_148_10 : e_Sn 148 10 (e_un n_148_10) := u_oldT (s_alen hq_148 (by decide +kernel) rfl : e_Sn 148 10 (o_alen e_fcs 11)) t_148_11 (e_cg_alen e_fcs)
noncomputable def n_148_9 : e_Y := u_ld f_okA f_l2 n_148_10
theorem t_148_9 : e_Sn 148 9 (e_un n_148_9) := u_ldAT f_l2_eq (s_aload (i := .aload_n 2) (len := 1) hq_148 (by decide +kernel) rfl (.inr ⟨2, rfl, rfl, rfl⟩) : e_Sn 148 9 (o_load e_okR 2 10)) t_148_10
noncomputable def n_148_8 : e_Y := u_ld f_okI f_l3 n_148_9
theorem t_148_8 : e_Sn 148 8 (e_un n_148_8) := u_ldIT f_l3_eq (s_iload (i := .iload_n 3) (len := 1) hq_148 (by decide +kernel) rfl (.inr ⟨3, rfl, rfl, rfl⟩) : e_Sn 148 8 (o_load e_okI 3 9)) t_148_9
noncomputable def n_148_7 : e_Y := u_st f_okI f_s3 n_148_8
theorem t_148_7 : e_Sn 148 7 (e_un n_148_7) := u_stIT (fun _ _ _ => f_s3_eq) (s_istore (i := .istore_n 3) (len := 1) hq_148 (by decide +kernel) rfl (.inr ⟨3, rfl, rfl, rfl⟩) : e_Sn 148 7 (o_store e_okI 3 8)) t_148_8
noncomputable def n_148_6 : e_Y := u_push (.inl 2147483648) n_148_7
theorem t_148_6 : e_Sn 148 6 (e_un n_148_6) := u_pushT (s_iconst (n := (0)) hq_148 (by decide +kernel) rfl ⟨by decide +kernel, by decide +kernel⟩ : e_Sn 148 6 (o_push (.inl 2147483648) 7)) t_148_7
noncomputable def n_148_5 : e_Y := u_st f_okA f_s2 n_148_6
theorem t_148_5 : e_Sn 148 5 (e_un n_148_5) := u_stAT (fun _ _ _ => f_s2_eq) (s_astore (i := .astore_n 2) (len := 1) hq_148 (by decide +kernel) rfl (.inr ⟨2, rfl, rfl, rfl⟩) : e_Sn 148 5 (o_store e_okR 2 6)) t_148_6
noncomputable def n_148_3 : e_Y := u_tab (o_newa 1 (e_I 2147483648) 5)
theorem t_148_3 : e_Sn 148 3 (e_un n_148_3) := u_tabT (s_newZ (List.mem_of_getElem? (i := 1819) (by decide +kernel)) hq_148 (by decide +kernel) rfl : e_Sn 148 3 (o_newa 1 (e_I 2147483648) 5))
noncomputable def n_148_0 : e_Y := u_push (.inl 2147484672) n_148_3
theorem t_148_0 : e_Sn 148 0 (e_un n_148_0) := u_pushT (s_sipush (n := (1024)) hq_148 (by decide +kernel) rfl ⟨by decide +kernel, by decide +kernel⟩ : e_Sn 148 0 (o_push (.inl 2147484672) 3)) t_148_3
noncomputable def e_tb_148 : e_X := (e_br 5 (e_lf 0 (e_un n_148_0)) (e_br 8 (e_lf 5 (e_un n_148_5)) (e_lf 8 (e_un n_148_8))))
theorem e_tk_148 : e_Tb 148 e_tb_148 := (e_brT (e_lfT t_148_0) (e_brT (e_lfT t_148_5) (e_lfT t_148_8)))
theorem hq_155 : (e_ml[155]?).map (·.2.1) = some prog_14_method_54_code := rfl
theorem ho_155 : (e_ml[155]?).map (·.1.cls) = some "PlateroomprinterModel" := rfl
theorem hr_155 : (e_ml[155]?).map (·.2.2.2) = some (some .int) := rfl
noncomputable def n_155_20 : e_Y := u_retI
theorem t_155_20 : e_Sn 155 20 (e_un n_155_20) := u_retIT (s_iret hq_155 hr_155 (by decide +kernel) : e_Sn 155 20 (o_ret e_okI))
noncomputable def n_155_19 : e_Y := u_push (.inl 2147483648) n_155_20
theorem t_155_19 : e_Sn 155 19 (e_un n_155_19) := u_pushT (s_iconst (n := (0)) hq_155 (by decide +kernel) rfl ⟨by decide +kernel, by decide +kernel⟩ : e_Sn 155 19 (o_push (.inl 2147483648) 20)) t_155_20
noncomputable def n_155_16 : e_Y := u_tab (o_null 19 21)
theorem t_155_16 : e_Sn 155 16 (e_un n_155_16) := u_tabT (s_ifnonnull (off := (5)) hq_155 (by decide +kernel) rfl rfl : e_Sn 155 16 (o_null 19 21))
noncomputable def n_155_15 : e_Y := u_ld f_okA f_l3 n_155_16
theorem t_155_15 : e_Sn 155 15 (e_un n_155_15) := u_ldAT f_l3_eq (s_aload (i := .aload_n 3) (len := 1) hq_155 (by decide +kernel) rfl (.inr ⟨3, rfl, rfl, rfl⟩) : e_Sn 155 15 (o_load e_okR 3 16)) t_155_16
noncomputable def n_155_14 : e_Y := u_st f_okA f_s3 n_155_15
theorem t_155_14 : e_Sn 155 14 (e_un n_155_14) := u_stAT (fun _ _ _ => f_s3_eq) (s_astore (i := .astore_n 3) (len := 1) hq_155 (by decide +kernel) rfl (.inr ⟨3, rfl, rfl, rfl⟩) : e_Sn 155 14 (o_store e_okR 3 15)) t_155_15
noncomputable def n_155_11 : e_Y := u_old (o_cast 19 14) n_155_14
theorem t_155_11 : e_Sn 155 11 (e_un n_155_11) := u_oldT (s_cast (index := 16) hq_155 ho_155 (List.mem_of_getElem? (i := 1956) (by decide +kernel)) (.inl ⟨by decide, rfl⟩) (by decide +kernel) rfl : e_Sn 155 11 (o_cast 19 14)) t_155_14 (e_cg_cast 19)
noncomputable def n_155_8 : e_Y := u_callV 19 229 2 21 2 n_229_0 n_155_11
theorem t_155_8 : e_Sn 155 8 (e_un n_155_8) := u_callVT rfl (s_callV (ci := 19) (C := er_19) (T := et_19) (N := 3) (index := 78) hq_155 ho_155 hy_229 hp_229 hc_229 hi_229 hd_229 (List.mem_of_getElem? (i := 2066) (by decide +kernel)) hs_229 (List.mem_of_getElem? (i := 2051) (by decide +kernel)) rfl (by decide +kernel) rfl : e_Sn 155 8 (o_callV (e_s1 19 229 2) 2 11)) t_229_0 t_155_11
noncomputable def n_155_7 : e_Y := u_ld f_okI f_l1 n_155_8
theorem t_155_7 : e_Sn 155 7 (e_un n_155_7) := u_ldIT f_l1_eq (s_iload (i := .iload_n 1) (len := 1) hq_155 (by decide +kernel) rfl (.inr ⟨1, rfl, rfl, rfl⟩) : e_Sn 155 7 (o_load e_okI 1 8)) t_155_8
noncomputable def n_155_4 : e_Y := u_getf 13 4 (u_old (o_getf (e_f1 13 4) 7) n_155_7) n_155_7
theorem t_155_4 : e_Sn 155 4 (e_un n_155_4) := u_getfT (s_getf (C := er_13) (T := et_13) (N := 13) (ref := "PlateroomprinterModel$Machine") (index := 278) (ci := 13) (k := 4) hq_155 ho_155 ⟨rfl, by decide, ei_13, (List.mem_of_getElem? (i := 1904) (by decide +kernel)), .inl rfl⟩ (by decide +kernel) rfl : e_Sn 155 4 (o_getf (e_f1 13 4) 7)) t_155_7
noncomputable def n_155_1 : e_Y := u_getf 12 1 (u_old (o_getf (e_f1 12 1) 4) n_155_4) n_155_4
theorem t_155_1 : e_Sn 155 1 (e_un n_155_1) := u_getfT (s_getf (C := er_12) (T := et_12) (N := 5) (ref := "PlateroomprinterModel") (index := 10) (ci := 12) (k := 1) hq_155 ho_155 ⟨rfl, by decide, ei_12, (List.mem_of_getElem? (i := 1959) (by decide +kernel)), .inl rfl⟩ (by decide +kernel) rfl : e_Sn 155 1 (o_getf (e_f1 12 1) 4)) t_155_4
noncomputable def n_155_0 : e_Y := u_ld f_okA f_l0 n_155_1
theorem t_155_0 : e_Sn 155 0 (e_un n_155_0) := u_ldAT f_l0_eq (s_aload (i := .aload_n 0) (len := 1) hq_155 (by decide +kernel) rfl (.inr ⟨0, rfl, rfl, rfl⟩) : e_Sn 155 0 (o_load e_okR 0 1)) t_155_1
noncomputable def e_tb_155 : e_X := (e_br 19 (e_lf 0 (e_un n_155_0)) (e_lf 19 (e_un n_155_19)))
theorem e_tk_155 : e_Tb 155 e_tb_155 := (e_brT (e_lfT t_155_0) (e_lfT t_155_19))
theorem hq_137 : (e_ml[137]?).map (·.2.1) = some prog_14_method_13_code := rfl
theorem ho_137 : (e_ml[137]?).map (·.1.cls) = some "PlateroomprinterModel" := rfl
theorem hr_137 : (e_ml[137]?).map (·.2.2.2) = some (some (.object "java/util/ArrayList")) := rfl
noncomputable def n_137_46 : e_Y := u_retA
theorem t_137_46 : e_Sn 137 46 (e_un n_137_46) := u_retAT (s_aret (.inl ⟨_, rfl⟩) hq_137 hr_137 (by decide +kernel) : e_Sn 137 46 (o_ret e_okR))
noncomputable def n_137_45 : e_Y := u_ld f_okA f_l3 n_137_46
theorem t_137_45 : e_Sn 137 45 (e_un n_137_45) := u_ldAT f_l3_eq (s_aload (i := .aload_n 3) (len := 1) hq_137 (by decide +kernel) rfl (.inr ⟨3, rfl, rfl, rfl⟩) : e_Sn 137 45 (o_load e_okR 3 46)) t_137_46
noncomputable def n_137_17 : e_Y := u_jmp y_ge (u_old2 (o_clt 20 45) 20 (u_at 20) n_137_45) (u_at 20) n_137_45
theorem t_137_17 : e_Sn 137 17 (e_un n_137_17) := u_cltT rfl (s_cge (off := (28)) hq_137 (by decide +kernel) rfl rfl : e_Sn 137 17 (o_clt 20 45)) u_atT t_137_45
noncomputable def n_137_14 : e_Y := u_callV 19 236 1 20 1 n_236_0 n_137_17
theorem t_137_14 : e_Sn 137 14 (e_un n_137_14) := u_callVT rfl (s_callV (ci := 19) (C := er_19) (T := et_19) (N := 3) (index := 74) hq_137 ho_137 hy_236 hp_236 hc_236 hi_236 hd_236 (List.mem_of_getElem? (i := 2000) (by decide +kernel)) hs_236 (List.mem_of_getElem? (i := 2002) (by decide +kernel)) rfl (by decide +kernel) rfl : e_Sn 137 14 (o_callV (e_s1 19 236 1) 1 17)) t_236_0 t_137_17
noncomputable def n_137_13 : e_Y := u_ld f_okA f_l0 n_137_14
theorem t_137_13 : e_Sn 137 13 (e_un n_137_13) := u_ldAT f_l0_eq (s_aload (i := .aload_n 0) (len := 1) hq_137 (by decide +kernel) rfl (.inr ⟨0, rfl, rfl, rfl⟩) : e_Sn 137 13 (o_load e_okR 0 14)) t_137_14
noncomputable def n_137_11 : e_Y := u_ld f_okI f_l4 n_137_13
theorem t_137_11 : e_Sn 137 11 (e_un n_137_11) := u_ldIT f_l4_eq (s_iload (i := .iload 4) (len := 2) hq_137 (by decide +kernel) rfl (.inl ⟨rfl, rfl⟩) : e_Sn 137 11 (o_load e_okI 4 13)) t_137_13
noncomputable def n_137_9 : e_Y := u_st f_okI f_s4 n_137_11
theorem t_137_9 : e_Sn 137 9 (e_un n_137_9) := u_stIT (fun _ _ _ => f_s4_eq) (s_istore (i := .istore 4) (len := 2) hq_137 (by decide +kernel) rfl (.inl ⟨rfl, rfl⟩) : e_Sn 137 9 (o_store e_okI 4 11)) t_137_11
noncomputable def n_137_8 : e_Y := u_push (.inl 2147483648) n_137_9
theorem t_137_8 : e_Sn 137 8 (e_un n_137_8) := u_pushT (s_iconst (n := (0)) hq_137 (by decide +kernel) rfl ⟨by decide +kernel, by decide +kernel⟩ : e_Sn 137 8 (o_push (.inl 2147483648) 9)) t_137_9
noncomputable def n_137_7 : e_Y := u_st f_okA f_s3 n_137_8
theorem t_137_7 : e_Sn 137 7 (e_un n_137_7) := u_stAT (fun _ _ _ => f_s3_eq) (s_astore (i := .astore_n 3) (len := 1) hq_137 (by decide +kernel) rfl (.inr ⟨3, rfl, rfl, rfl⟩) : e_Sn 137 7 (o_store e_okR 3 8)) t_137_8
noncomputable def n_137_4 : e_Y := u_tab (o_callI 224 1 1 7)
theorem t_137_4 : e_Sn 137 4 (e_un n_137_4) := u_tabT (s_callI (index := 18) hq_137 ho_137 hy_224 hp_224 hc_224 hi_224 hd_224 (List.mem_of_getElem? (i := 1957) (by decide +kernel)) rfl rfl hs_224 (by decide +kernel) rfl : e_Sn 137 4 (o_callI 224 1 1 7))
noncomputable def n_137_3 : e_Y := u_old (o_dup 4) n_137_4
theorem t_137_3 : e_Sn 137 3 (e_un n_137_3) := u_oldT (s_dup hq_137 (by decide +kernel) rfl : e_Sn 137 3 (o_dup 4)) t_137_4 e_cg_dup
noncomputable def n_137_0 : e_Y := u_tab (o_new 19 3 ef_19 3)
theorem t_137_0 : e_Sn 137 0 (e_un n_137_0) := u_tabT (s_new (index := 16) (ci := 19) (N := 3) (C := er_19) (T := et_19) (ty0 := ey_19) (fv := eg_19) hq_137 ho_137 rfl ei_19 eo_19 (List.mem_of_getElem? (i := 1956) (by decide +kernel)) (List.mem_of_getElem? (i := 1751) (by decide +kernel)) (List.mem_of_getElem? (i := 155) (by decide +kernel)) eh_19 rfl (e_newrel ek_19) (by decide +kernel) rfl : e_Sn 137 0 (o_new 19 3 ef_19 3))
noncomputable def e_tb_137 : e_X := (e_br 3 (e_lf 0 (e_un n_137_0)) (e_br 7 (e_lf 3 (e_un n_137_3)) (e_lf 7 (e_un n_137_7))))
theorem e_tk_137 : e_Tb 137 e_tb_137 := (e_brT (e_lfT t_137_0) (e_brT (e_lfT t_137_3) (e_lfT t_137_7)))
theorem hq_180 : (e_ml[180]?).map (·.2.1) = some prog_14_method_3_code := rfl
theorem ho_180 : (e_ml[180]?).map (·.1.cls) = some "PlateroomprinterModel" := rfl
theorem hr_180 : (e_ml[180]?).map (·.2.2.2) = some (some .int) := rfl
noncomputable def n_180_9 : e_Y := u_retI
theorem t_180_9 : e_Sn 180 9 (e_un n_180_9) := u_retIT (s_iret hq_180 hr_180 (by decide +kernel) : e_Sn 180 9 (o_ret e_okI))
noncomputable def n_180_8 : e_Y := u_push (.inl 2147483648) n_180_9
theorem t_180_8 : e_Sn 180 8 (e_un n_180_8) := u_pushT (s_iconst (n := (0)) hq_180 (by decide +kernel) rfl ⟨by decide +kernel, by decide +kernel⟩ : e_Sn 180 8 (o_push (.inl 2147483648) 9)) t_180_9
noncomputable def n_180_5 : e_Y := n_180_9
theorem t_180_5 : e_Sn 180 5 (e_un n_180_5) := u_gotoT (s_goto (off := (4)) hq_180 (by decide +kernel) rfl : e_Sn 180 5 (o_goto 9)) t_180_9
noncomputable def n_180_4 : e_Y := u_push (.inl 2147483649) n_180_5
theorem t_180_4 : e_Sn 180 4 (e_un n_180_4) := u_pushT (s_iconst (n := (1)) hq_180 (by decide +kernel) rfl ⟨by decide +kernel, by decide +kernel⟩ : e_Sn 180 4 (o_push (.inl 2147483649) 5)) t_180_5
noncomputable def n_180_1 : e_Y := u_if y_ne0 (u_old2 (o_ifeq 8 4) 8 n_180_8 n_180_4) n_180_8 n_180_4
theorem t_180_1 : e_Sn 180 1 (e_un n_180_1) := u_ifeqT rfl (s_ifeq (off := (7)) hq_180 (by decide +kernel) rfl rfl : e_Sn 180 1 (o_ifeq 8 4)) t_180_8 t_180_4
noncomputable def n_180_0 : e_Y := u_ld f_okI f_l0 n_180_1
theorem t_180_0 : e_Sn 180 0 (e_un n_180_0) := u_ldIT f_l0_eq (s_iload (i := .iload_n 0) (len := 1) hq_180 (by decide +kernel) rfl (.inr ⟨0, rfl, rfl, rfl⟩) : e_Sn 180 0 (o_load e_okI 0 1)) t_180_1
noncomputable def e_tb_180 : e_X := (e_lf 0 (e_un n_180_0))
theorem e_tk_180 : e_Tb 180 e_tb_180 := (e_lfT t_180_0)
theorem hq_174 : (e_ml[174]?).map (·.2.1) = some prog_14_method_18_code := rfl
theorem ho_174 : (e_ml[174]?).map (·.1.cls) = some "PlateroomprinterModel" := rfl
theorem hr_174 : (e_ml[174]?).map (·.2.2.2) = some (some .int) := rfl
noncomputable def n_174_37 : e_Y := u_retI
theorem t_174_37 : e_Sn 174 37 (e_un n_174_37) := u_retIT (s_iret hq_174 hr_174 (by decide +kernel) : e_Sn 174 37 (o_ret e_okI))
noncomputable def n_174_36 : e_Y := u_ld f_okI f_l1 n_174_37
theorem t_174_36 : e_Sn 174 36 (e_un n_174_36) := u_ldIT f_l1_eq (s_iload (i := .iload_n 1) (len := 1) hq_174 (by decide +kernel) rfl (.inr ⟨1, rfl, rfl, rfl⟩) : e_Sn 174 36 (o_load e_okI 1 37)) t_174_37
noncomputable def n_174_33 : e_Y := (u_at 10)
theorem t_174_33 : e_Sn 174 33 (e_un n_174_33) := u_gotoT (s_goto (off := (-23)) hq_174 (by decide +kernel) rfl : e_Sn 174 33 (o_goto 10)) u_atT
noncomputable def n_174_30 : e_Y := u_inc f_l4 f_s4 1 n_174_33
theorem t_174_30 : e_Sn 174 30 (e_un n_174_30) := u_incT f_l4_eq (fun _ _ _ => f_s4_eq) (s_iinc (zz := (1)) hq_174 (by decide +kernel) rfl (by decide +kernel) ⟨by decide, by decide⟩ : e_Sn 174 30 (o_iinc 4 1 33)) t_174_33
noncomputable def n_174_29 : e_Y := u_st f_okI f_s1 n_174_30
theorem t_174_29 : e_Sn 174 29 (e_un n_174_29) := u_stIT (fun _ _ _ => f_s1_eq) (s_istore (i := .istore_n 1) (len := 1) hq_174 (by decide +kernel) rfl (.inr ⟨1, rfl, rfl, rfl⟩) : e_Sn 174 29 (o_store e_okI 1 30)) t_174_30
noncomputable def n_174_28 : e_Y := u_bin a_iadd (u_old (o_iadd 29) n_174_29) n_174_29
theorem t_174_28 : e_Sn 174 28 (e_un n_174_28) := u_iaddT (s_iadd hq_174 (by decide +kernel) rfl : e_Sn 174 28 (o_iadd 29)) t_174_29
noncomputable def n_174_25 : e_Y := u_callS 180 1 20 1 n_180_0 n_174_28
theorem t_174_25 : e_Sn 174 25 (e_un n_174_25) := u_callST rfl (s_callS (index := 107) hq_174 ho_174 hy_180 hp_180 hc_180 hi_180 hd_180 (List.mem_of_getElem? (i := 2482) (by decide +kernel)) hs_180 (by decide +kernel) rfl : e_Sn 174 25 (o_callS 180 1 1 28)) t_180_0 t_174_28
noncomputable def n_174_23 : e_Y := u_ld f_okI f_l5 n_174_25
theorem t_174_23 : e_Sn 174 23 (e_un n_174_23) := u_ldIT f_l5_eq (s_iload (i := .iload 5) (len := 2) hq_174 (by decide +kernel) rfl (.inl ⟨rfl, rfl⟩) : e_Sn 174 23 (o_load e_okI 5 25)) t_174_25
noncomputable def n_174_22 : e_Y := u_ld f_okI f_l1 n_174_23
theorem t_174_22 : e_Sn 174 22 (e_un n_174_22) := u_ldIT f_l1_eq (s_iload (i := .iload_n 1) (len := 1) hq_174 (by decide +kernel) rfl (.inr ⟨1, rfl, rfl, rfl⟩) : e_Sn 174 22 (o_load e_okI 1 23)) t_174_23
noncomputable def n_174_20 : e_Y := u_st f_okI f_s5 n_174_22
theorem t_174_20 : e_Sn 174 20 (e_un n_174_20) := u_stIT (fun _ _ _ => f_s5_eq) (s_istore (i := .istore 5) (len := 2) hq_174 (by decide +kernel) rfl (.inl ⟨rfl, rfl⟩) : e_Sn 174 20 (o_store e_okI 5 22)) t_174_22
noncomputable def n_174_19 : e_Y := u_ald 1 (u_old (o_aldO 1 20) n_174_20) n_174_20
theorem t_174_19 : e_Sn 174 19 (e_un n_174_19) := u_aldOT (s_zald hq_174 (by decide +kernel) rfl : e_Sn 174 19 (o_aldO 1 20)) t_174_20
noncomputable def n_174_17 : e_Y := u_ld f_okI f_l4 n_174_19
theorem t_174_17 : e_Sn 174 17 (e_un n_174_17) := u_ldIT f_l4_eq (s_iload (i := .iload 4) (len := 2) hq_174 (by decide +kernel) rfl (.inl ⟨rfl, rfl⟩) : e_Sn 174 17 (o_load e_okI 4 19)) t_174_19
noncomputable def n_174_16 : e_Y := u_ld f_okA f_l2 n_174_17
theorem t_174_16 : e_Sn 174 16 (e_un n_174_16) := u_ldAT f_l2_eq (s_aload (i := .aload_n 2) (len := 1) hq_174 (by decide +kernel) rfl (.inr ⟨2, rfl, rfl, rfl⟩) : e_Sn 174 16 (o_load e_okR 2 17)) t_174_17
noncomputable def n_174_13 : e_Y := u_jmp y_ge (u_old2 (o_clt 16 36) 16 n_174_16 n_174_36) n_174_16 n_174_36
theorem t_174_13 : e_Sn 174 13 (e_un n_174_13) := u_cltT rfl (s_cge (off := (23)) hq_174 (by decide +kernel) rfl rfl : e_Sn 174 13 (o_clt 16 36)) t_174_16 t_174_36
noncomputable def n_174_12 : e_Y := u_ld f_okI f_l3 n_174_13
theorem t_174_12 : e_Sn 174 12 (e_un n_174_12) := u_ldIT f_l3_eq (s_iload (i := .iload_n 3) (len := 1) hq_174 (by decide +kernel) rfl (.inr ⟨3, rfl, rfl, rfl⟩) : e_Sn 174 12 (o_load e_okI 3 13)) t_174_13
noncomputable def n_174_10 : e_Y := u_ld f_okI f_l4 n_174_12
theorem t_174_10 : e_Sn 174 10 (e_un n_174_10) := u_ldIT f_l4_eq (s_iload (i := .iload 4) (len := 2) hq_174 (by decide +kernel) rfl (.inl ⟨rfl, rfl⟩) : e_Sn 174 10 (o_load e_okI 4 12)) t_174_12
noncomputable def n_174_8 : e_Y := u_st f_okI f_s4 n_174_10
theorem t_174_8 : e_Sn 174 8 (e_un n_174_8) := u_stIT (fun _ _ _ => f_s4_eq) (s_istore (i := .istore 4) (len := 2) hq_174 (by decide +kernel) rfl (.inl ⟨rfl, rfl⟩) : e_Sn 174 8 (o_store e_okI 4 10)) t_174_10
noncomputable def n_174_7 : e_Y := u_push (.inl 2147483648) n_174_8
theorem t_174_7 : e_Sn 174 7 (e_un n_174_7) := u_pushT (s_iconst (n := (0)) hq_174 (by decide +kernel) rfl ⟨by decide +kernel, by decide +kernel⟩ : e_Sn 174 7 (o_push (.inl 2147483648) 8)) t_174_8
noncomputable def n_174_6 : e_Y := u_st f_okI f_s3 n_174_7
theorem t_174_6 : e_Sn 174 6 (e_un n_174_6) := u_stIT (fun _ _ _ => f_s3_eq) (s_istore (i := .istore_n 3) (len := 1) hq_174 (by decide +kernel) rfl (.inr ⟨3, rfl, rfl, rfl⟩) : e_Sn 174 6 (o_store e_okI 3 7)) t_174_7
noncomputable def n_174_5 : e_Y := u_old (o_alen e_fcs 6) n_174_6
theorem t_174_5 : e_Sn 174 5 (e_un n_174_5) := u_oldT (s_alen hq_174 (by decide +kernel) rfl : e_Sn 174 5 (o_alen e_fcs 6)) t_174_6 (e_cg_alen e_fcs)
noncomputable def n_174_4 : e_Y := u_ld f_okA f_l2 n_174_5
theorem t_174_4 : e_Sn 174 4 (e_un n_174_4) := u_ldAT f_l2_eq (s_aload (i := .aload_n 2) (len := 1) hq_174 (by decide +kernel) rfl (.inr ⟨2, rfl, rfl, rfl⟩) : e_Sn 174 4 (o_load e_okR 2 5)) t_174_5
noncomputable def n_174_3 : e_Y := u_st f_okA f_s2 n_174_4
theorem t_174_3 : e_Sn 174 3 (e_un n_174_3) := u_stAT (fun _ _ _ => f_s2_eq) (s_astore (i := .astore_n 2) (len := 1) hq_174 (by decide +kernel) rfl (.inr ⟨2, rfl, rfl, rfl⟩) : e_Sn 174 3 (o_store e_okR 2 4)) t_174_4
noncomputable def n_174_2 : e_Y := u_ld f_okA f_l0 n_174_3
theorem t_174_2 : e_Sn 174 2 (e_un n_174_2) := u_ldAT f_l0_eq (s_aload (i := .aload_n 0) (len := 1) hq_174 (by decide +kernel) rfl (.inr ⟨0, rfl, rfl, rfl⟩) : e_Sn 174 2 (o_load e_okR 0 3)) t_174_3
noncomputable def n_174_1 : e_Y := u_st f_okI f_s1 n_174_2
theorem t_174_1 : e_Sn 174 1 (e_un n_174_1) := u_stIT (fun _ _ _ => f_s1_eq) (s_istore (i := .istore_n 1) (len := 1) hq_174 (by decide +kernel) rfl (.inr ⟨1, rfl, rfl, rfl⟩) : e_Sn 174 1 (o_store e_okI 1 2)) t_174_2
noncomputable def n_174_0 : e_Y := u_push (.inl 2147483648) n_174_1
theorem t_174_0 : e_Sn 174 0 (e_un n_174_0) := u_pushT (s_iconst (n := (0)) hq_174 (by decide +kernel) rfl ⟨by decide +kernel, by decide +kernel⟩ : e_Sn 174 0 (o_push (.inl 2147483648) 1)) t_174_1
noncomputable def e_tb_174 : e_X := (e_br 10 (e_lf 0 (e_un n_174_0)) (e_lf 10 (e_un n_174_10)))
theorem e_tk_174 : e_Tb 174 e_tb_174 := (e_brT (e_lfT t_174_0) (e_lfT t_174_10))
theorem hq_184 : (e_ml[184]?).map (·.2.1) = some prog_14_method_48_code := rfl
theorem ho_184 : (e_ml[184]?).map (·.1.cls) = some "PlateroomprinterModel" := rfl
theorem hr_184 : (e_ml[184]?).map (·.2.2.2) = some (some (.object "java/util/ArrayList")) := rfl
noncomputable def n_184_10 : e_Y := u_retA
theorem t_184_10 : e_Sn 184 10 (e_un n_184_10) := u_retAT (s_aret (.inl ⟨_, rfl⟩) hq_184 hr_184 (by decide +kernel) : e_Sn 184 10 (o_ret e_okR))
noncomputable def n_184_7 : e_Y := u_getf 17 1 (u_old (o_getf (e_f1 17 1) 10) n_184_10) n_184_10
theorem t_184_7 : e_Sn 184 7 (e_un n_184_7) := u_getfT (s_getf (C := er_17) (T := et_17) (N := 6) (ref := "PlateroomprinterModel$State") (index := 231) (ci := 17) (k := 1) hq_184 ho_184 ⟨rfl, by decide, ei_17, (List.mem_of_getElem? (i := 1793) (by decide +kernel)), .inl rfl⟩ (by decide +kernel) rfl : e_Sn 184 7 (o_getf (e_f1 17 1) 10)) t_184_10
noncomputable def n_184_4 : e_Y := u_getf 13 2 (u_old (o_getf (e_f1 13 2) 7) n_184_7) n_184_7
theorem t_184_4 : e_Sn 184 4 (e_un n_184_4) := u_getfT (s_getf (C := er_13) (T := et_13) (N := 13) (ref := "PlateroomprinterModel$Machine") (index := 218) (ci := 13) (k := 2) hq_184 ho_184 ⟨rfl, by decide, ei_13, (List.mem_of_getElem? (i := 1898) (by decide +kernel)), .inl rfl⟩ (by decide +kernel) rfl : e_Sn 184 4 (o_getf (e_f1 13 2) 7)) t_184_7
noncomputable def n_184_1 : e_Y := u_getf 12 1 (u_old (o_getf (e_f1 12 1) 4) n_184_4) n_184_4
theorem t_184_1 : e_Sn 184 1 (e_un n_184_1) := u_getfT (s_getf (C := er_12) (T := et_12) (N := 5) (ref := "PlateroomprinterModel") (index := 10) (ci := 12) (k := 1) hq_184 ho_184 ⟨rfl, by decide, ei_12, (List.mem_of_getElem? (i := 1959) (by decide +kernel)), .inl rfl⟩ (by decide +kernel) rfl : e_Sn 184 1 (o_getf (e_f1 12 1) 4)) t_184_4
noncomputable def n_184_0 : e_Y := u_ld f_okA f_l0 n_184_1
theorem t_184_0 : e_Sn 184 0 (e_un n_184_0) := u_ldAT f_l0_eq (s_aload (i := .aload_n 0) (len := 1) hq_184 (by decide +kernel) rfl (.inr ⟨0, rfl, rfl, rfl⟩) : e_Sn 184 0 (o_load e_okR 0 1)) t_184_1
noncomputable def e_tb_184 : e_X := (e_lf 0 (e_un n_184_0))
theorem e_tk_184 : e_Tb 184 e_tb_184 := (e_lfT t_184_0)
theorem hq_206 : (e_ml[206]?).map (·.2.1) = some prog_18_method_1_code := rfl
theorem ho_206 : (e_ml[206]?).map (·.1.cls) = some "PlateroomprinterModel$Ring" := rfl
theorem hr_206 : (e_ml[206]?).map (·.2.2.2) = some none := rfl
noncomputable def n_206_15 : e_Y := u_tab (o_retv)
theorem t_206_15 : e_Sn 206 15 (e_un n_206_15) := u_tabT (s_vret hq_206 hr_206 (by decide +kernel) : e_Sn 206 15 (o_retv))
noncomputable def n_206_12 : e_Y := u_old (o_putf (e_f1 14 0) e_okR 15) n_206_15
theorem t_206_12 : e_Sn 206 12 (e_un n_206_12) := u_oldT (s_putf (ty0 := ey_14) (ok := e_okR) (C := er_14) (T := et_14) (N := 2) (ref := "PlateroomprinterModel$Ring") (index := 10) (ci := 14) (k := 0) hq_206 ho_206 ⟨rfl, by decide, ei_14, (List.mem_of_getElem? (i := 2080) (by decide +kernel)), .inl rfl⟩ eo_14 en_14 e_oksR (.inr ⟨rfl, rfl, rfl⟩) (by decide +kernel) rfl : e_Sn 206 12 (o_putf (e_f1 14 0) e_okR 15)) t_206_15 (e_cg_putf (e_f1 14 0) e_okR)
noncomputable def n_206_9 : e_Y := u_tab (o_callI 224 1 1 12)
theorem t_206_9 : e_Sn 206 9 (e_un n_206_9) := u_tabT (s_callI (index := 9) hq_206 ho_206 hy_224 hp_224 hc_224 hi_224 hd_224 (List.mem_of_getElem? (i := 2079) (by decide +kernel)) rfl rfl hs_224 (by decide +kernel) rfl : e_Sn 206 9 (o_callI 224 1 1 12))
noncomputable def n_206_8 : e_Y := u_old (o_dup 9) n_206_9
theorem t_206_8 : e_Sn 206 8 (e_un n_206_8) := u_oldT (s_dup hq_206 (by decide +kernel) rfl : e_Sn 206 8 (o_dup 9)) t_206_9 e_cg_dup
noncomputable def n_206_5 : e_Y := u_tab (o_new 19 3 ef_19 8)
theorem t_206_5 : e_Sn 206 5 (e_un n_206_5) := u_tabT (s_new (index := 7) (ci := 19) (N := 3) (C := er_19) (T := et_19) (ty0 := ey_19) (fv := eg_19) hq_206 ho_206 rfl ei_19 eo_19 (List.mem_of_getElem? (i := 2078) (by decide +kernel)) (List.mem_of_getElem? (i := 1751) (by decide +kernel)) (List.mem_of_getElem? (i := 155) (by decide +kernel)) eh_19 rfl (e_newrel ek_19) (by decide +kernel) rfl : e_Sn 206 5 (o_new 19 3 ef_19 8))
noncomputable def n_206_4 : e_Y := u_ld f_okA f_l0 n_206_5
theorem t_206_4 : e_Sn 206 4 (e_un n_206_4) := u_ldAT f_l0_eq (s_aload (i := .aload_n 0) (len := 1) hq_206 (by decide +kernel) rfl (.inr ⟨0, rfl, rfl, rfl⟩) : e_Sn 206 4 (o_load e_okR 0 5)) t_206_5
noncomputable def n_206_1 : e_Y := u_tab (o_oinit 4)
theorem t_206_1 : e_Sn 206 1 (e_un n_206_1) := u_tabT (s_oinit (idx := 1) hq_206 ho_206 (List.mem_of_getElem? (i := 2077) (by decide +kernel)) (List.mem_of_getElem? (i := 190) (by decide +kernel)) (List.mem_of_getElem? (i := 191) (by decide +kernel)) (by decide +kernel) rfl : e_Sn 206 1 (o_oinit 4))
noncomputable def n_206_0 : e_Y := u_ld f_okA f_l0 n_206_1
theorem t_206_0 : e_Sn 206 0 (e_un n_206_0) := u_ldAT f_l0_eq (s_aload (i := .aload_n 0) (len := 1) hq_206 (by decide +kernel) rfl (.inr ⟨0, rfl, rfl, rfl⟩) : e_Sn 206 0 (o_load e_okR 0 1)) t_206_1
noncomputable def e_tb_206 : e_X := (e_br 8 (e_br 4 (e_lf 0 (e_un n_206_0)) (e_lf 4 (e_un n_206_4))) (e_br 12 (e_lf 8 (e_un n_206_8)) (e_lf 12 (e_un n_206_12))))
theorem e_tk_206 : e_Tb 206 e_tb_206 := (e_brT (e_brT (e_lfT t_206_0) (e_lfT t_206_4)) (e_brT (e_lfT t_206_8) (e_lfT t_206_12)))
end SN
