/-! TABLES, by program -/
section SN
theorem hq_208 : (e_ml[208]?).map (·.2.1) = some prog_19_method_2_code := rfl
theorem ho_208 : (e_ml[208]?).map (·.1.cls) = some "PlateroomprinterModel$Row" := rfl
theorem hr_208 : (e_ml[208]?).map (·.2.2.2) = some (some .boolean) := rfl
noncomputable def n_208_19 : e_Y := u_tab (o_ret e_okZ)
theorem t_208_19 : e_Sn 208 19 (e_un n_208_19) := u_tabT (s_zret hq_208 hr_208 (by decide +kernel) : e_Sn 208 19 (o_ret e_okZ))
noncomputable def n_208_15 : e_Y := n_208_19
theorem t_208_15 : e_Sn 208 15 (e_un n_208_15) := u_gotoT (s_goto (off := (4)) hq_208 (by decide +kernel) rfl : e_Sn 208 15 (o_goto 19)) t_208_19
noncomputable def n_208_14 : e_Y := u_push (.inl 2147483649) n_208_15
theorem t_208_14 : e_Sn 208 14 (e_un n_208_14) := u_pushT (s_iconst (n := (1)) hq_208 (by decide +kernel) rfl ⟨by decide +kernel, by decide +kernel⟩ : e_Sn 208 14 (o_push (.inl 2147483649) 15)) t_208_15
noncomputable def n_208_11 : e_Y := u_jmp y_ne (u_old2 (o_ceq 14 18) 14 n_208_14 (u_at 18)) n_208_14 (u_at 18)
theorem t_208_11 : e_Sn 208 11 (e_un n_208_11) := u_ceqT rfl (s_cne (off := (7)) hq_208 (by decide +kernel) rfl rfl : e_Sn 208 11 (o_ceq 14 18)) t_208_14 u_atT
noncomputable def n_208_8 : e_Y := u_callV 18 234 1 20 1 n_234_0 n_208_11
theorem t_208_8 : e_Sn 208 8 (e_un n_208_8) := u_callVT rfl (s_callV (ci := 18) (C := er_18) (T := et_18) (N := 3) (index := 17) hq_208 ho_208 hy_234 hp_234 hc_234 hi_234 hd_234 (List.mem_of_getElem? (i := 2187) (by decide +kernel)) hs_234 (List.mem_of_getElem? (i := 2002) (by decide +kernel)) rfl (by decide +kernel) rfl : e_Sn 208 8 (o_callV (e_s1 18 234 1) 1 11)) t_234_0 t_208_11
noncomputable def n_208_5 : e_Y := u_getf 15 0 (u_old (o_getf (e_f1 15 0) 8) n_208_8) n_208_8
theorem t_208_5 : e_Sn 208 5 (e_un n_208_5) := u_getfT (s_getf (C := er_15) (T := et_15) (N := 8) (ref := "PlateroomprinterModel$Row") (index := 7) (ci := 15) (k := 0) hq_208 ho_208 ⟨rfl, by decide, ei_15, (List.mem_of_getElem? (i := 2122) (by decide +kernel)), .inl rfl⟩ (by decide +kernel) rfl : e_Sn 208 5 (o_getf (e_f1 15 0) 8)) t_208_8
noncomputable def n_208_4 : e_Y := u_ld f_okA f_l0 n_208_5
theorem t_208_4 : e_Sn 208 4 (e_un n_208_4) := u_ldAT f_l0_eq (s_aload (i := .aload_n 0) (len := 1) hq_208 (by decide +kernel) rfl (.inr ⟨0, rfl, rfl, rfl⟩) : e_Sn 208 4 (o_load e_okR 0 5)) t_208_5
noncomputable def n_208_1 : e_Y := u_getf 15 1 (u_old (o_getf (e_f1 15 1) 4) n_208_4) n_208_4
theorem t_208_1 : e_Sn 208 1 (e_un n_208_1) := u_getfT (s_getf (C := er_15) (T := et_15) (N := 8) (ref := "PlateroomprinterModel$Row") (index := 13) (ci := 15) (k := 1) hq_208 ho_208 ⟨rfl, by decide, ei_15, (List.mem_of_getElem? (i := 2124) (by decide +kernel)), .inl rfl⟩ (by decide +kernel) rfl : e_Sn 208 1 (o_getf (e_f1 15 1) 4)) t_208_4
noncomputable def n_208_0 : e_Y := u_ld f_okA f_l0 n_208_1
theorem t_208_0 : e_Sn 208 0 (e_un n_208_0) := u_ldAT f_l0_eq (s_aload (i := .aload_n 0) (len := 1) hq_208 (by decide +kernel) rfl (.inr ⟨0, rfl, rfl, rfl⟩) : e_Sn 208 0 (o_load e_okR 0 1)) t_208_1
noncomputable def e_tb_208 : e_X := (e_lf 0 (e_un n_208_0))
theorem e_tk_208 : e_Tb 208 e_tb_208 := (e_lfT t_208_0)
theorem hq_212 : (e_ml[212]?).map (·.2.1) = some prog_20_method_2_code := rfl
theorem ho_212 : (e_ml[212]?).map (·.1.cls) = some "PlateroomprinterModel$Run" := rfl
theorem hr_212 : (e_ml[212]?).map (·.2.2.2) = some (some (.object "PlateroomprinterModel$Row")) := rfl
noncomputable def n_212_19 : e_Y := u_retA
theorem t_212_19 : e_Sn 212 19 (e_un n_212_19) := u_retAT (s_aret (.inl ⟨_, rfl⟩) hq_212 hr_212 (by decide +kernel) : e_Sn 212 19 (o_ret e_okR))
noncomputable def n_212_16 : e_Y := u_old (o_cast 15 19) n_212_19
theorem t_212_16 : e_Sn 212 16 (e_un n_212_16) := u_oldT (s_cast (index := 29) hq_212 ho_212 (List.mem_of_getElem? (i := 2116) (by decide +kernel)) (.inl ⟨by decide, rfl⟩) (by decide +kernel) rfl : e_Sn 212 16 (o_cast 15 19)) t_212_19 (e_cg_cast 15)
noncomputable def n_212_13 : e_Y := u_callV 18 227 2 21 2 n_227_0 n_212_16
theorem t_212_13 : e_Sn 212 13 (e_un n_212_13) := u_callVT rfl (s_callV (ci := 18) (C := er_18) (T := et_18) (N := 3) (index := 42) hq_212 ho_212 hy_227 hp_227 hc_227 hi_227 hd_227 (List.mem_of_getElem? (i := 2182) (by decide +kernel)) hs_227 (List.mem_of_getElem? (i := 2051) (by decide +kernel)) rfl (by decide +kernel) rfl : e_Sn 212 13 (o_callV (e_s1 18 227 2) 2 16)) t_227_0 t_212_16
noncomputable def n_212_12 : e_Y := u_bin a_isub (u_old (o_isub 13) n_212_13) n_212_13
theorem t_212_12 : e_Sn 212 12 (e_un n_212_12) := u_isubT (s_isub hq_212 (by decide +kernel) rfl : e_Sn 212 12 (o_isub 13)) t_212_13
noncomputable def n_212_11 : e_Y := u_push (.inl 2147483649) n_212_12
theorem t_212_11 : e_Sn 212 11 (e_un n_212_11) := u_pushT (s_iconst (n := (1)) hq_212 (by decide +kernel) rfl ⟨by decide +kernel, by decide +kernel⟩ : e_Sn 212 11 (o_push (.inl 2147483649) 12)) t_212_12
noncomputable def n_212_8 : e_Y := u_callV 18 234 1 20 1 n_234_0 n_212_11
theorem t_212_8 : e_Sn 212 8 (e_un n_212_8) := u_callVT rfl (s_callV (ci := 18) (C := er_18) (T := et_18) (N := 3) (index := 38) hq_212 ho_212 hy_234 hp_234 hc_234 hi_234 hd_234 (List.mem_of_getElem? (i := 2181) (by decide +kernel)) hs_234 (List.mem_of_getElem? (i := 2002) (by decide +kernel)) rfl (by decide +kernel) rfl : e_Sn 212 8 (o_callV (e_s1 18 234 1) 1 11)) t_234_0 t_212_11
noncomputable def n_212_5 : e_Y := u_getf 16 1 (u_old (o_getf (e_f1 16 1) 8) n_212_8) n_212_8
theorem t_212_5 : e_Sn 212 5 (e_un n_212_5) := u_getfT (s_getf (C := er_16) (T := et_16) (N := 5) (ref := "PlateroomprinterModel$Run") (index := 12) (ci := 16) (k := 1) hq_212 ho_212 ⟨rfl, by decide, ei_16, (List.mem_of_getElem? (i := 2151) (by decide +kernel)), .inl rfl⟩ (by decide +kernel) rfl : e_Sn 212 5 (o_getf (e_f1 16 1) 8)) t_212_8
noncomputable def n_212_4 : e_Y := u_ld f_okA f_l0 n_212_5
theorem t_212_4 : e_Sn 212 4 (e_un n_212_4) := u_ldAT f_l0_eq (s_aload (i := .aload_n 0) (len := 1) hq_212 (by decide +kernel) rfl (.inr ⟨0, rfl, rfl, rfl⟩) : e_Sn 212 4 (o_load e_okR 0 5)) t_212_5
noncomputable def n_212_1 : e_Y := u_getf 16 1 (u_old (o_getf (e_f1 16 1) 4) n_212_4) n_212_4
theorem t_212_1 : e_Sn 212 1 (e_un n_212_1) := u_getfT (s_getf (C := er_16) (T := et_16) (N := 5) (ref := "PlateroomprinterModel$Run") (index := 12) (ci := 16) (k := 1) hq_212 ho_212 ⟨rfl, by decide, ei_16, (List.mem_of_getElem? (i := 2151) (by decide +kernel)), .inl rfl⟩ (by decide +kernel) rfl : e_Sn 212 1 (o_getf (e_f1 16 1) 4)) t_212_4
noncomputable def n_212_0 : e_Y := u_ld f_okA f_l0 n_212_1
theorem t_212_0 : e_Sn 212 0 (e_un n_212_0) := u_ldAT f_l0_eq (s_aload (i := .aload_n 0) (len := 1) hq_212 (by decide +kernel) rfl (.inr ⟨0, rfl, rfl, rfl⟩) : e_Sn 212 0 (o_load e_okR 0 1)) t_212_1
noncomputable def e_tb_212 : e_X := (e_lf 0 (e_un n_212_0))
theorem e_tk_212 : e_Tb 212 e_tb_212 := (e_lfT t_212_0)
theorem hq_226 : (e_ml[226]?).map (·.2.1) = some prog_50_method_39_code := rfl
theorem ho_226 : (e_ml[226]?).map (·.1.cls) = some "java/util/ArrayList" := rfl
theorem hr_226 : (e_ml[226]?).map (·.2.2.2) = some none := rfl
noncomputable def n_226_43 : e_Y := u_tab (o_retv)
theorem t_226_43 : e_Sn 226 43 (e_un n_226_43) := u_tabT (s_vret hq_226 hr_226 (by decide +kernel) : e_Sn 226 43 (o_retv))
noncomputable def n_226_42 : e_Y := u_old (o_astR 3 (fun _ => false) 43) n_226_43
theorem t_226_42 : e_Sn 226 42 (e_un n_226_42) := u_oldT (s_aast (tc := 0) (E := "java/lang/Object") hq_226 rfl (by decide) (fun k hk => by cases hk) (by decide +kernel) rfl : e_Sn 226 42 (o_astR 3 (fun _ => false) 43)) t_226_43 (e_cg_astR 3 (fun _ => false))
noncomputable def n_226_41 : e_Y := u_push e_N n_226_42
theorem t_226_41 : e_Sn 226 41 (e_un n_226_41) := u_pushT (s_null hq_226 (by decide +kernel) rfl : e_Sn 226 41 (o_push e_N 42)) t_226_42
noncomputable def n_226_38 : e_Y := u_old (o_putf (e_f1 18 1) e_okI 41) n_226_41
theorem t_226_38 : e_Sn 226 38 (e_un n_226_38) := u_oldT (s_putf (ty0 := ey_18) (ok := e_okI) (C := er_18) (T := et_18) (N := 3) (ref := "java/util/ArrayList") (index := 48) (ci := 18) (k := 1) hq_226 ho_226 ⟨rfl, by decide, ei_18, (List.mem_of_getElem? (i := 1767) (by decide +kernel)), .inl rfl⟩ eo_18 en_18 e_oksI (.inl rfl) (by decide +kernel) rfl : e_Sn 226 38 (o_putf (e_f1 18 1) e_okI 41)) t_226_41 (e_cg_putf (e_f1 18 1) e_okI)
noncomputable def n_226_37 : e_Y := u_old (o_dup_x1 38) n_226_38
theorem t_226_37 : e_Sn 226 37 (e_un n_226_37) := u_oldT (s_dup_x1 hq_226 (by decide +kernel) rfl : e_Sn 226 37 (o_dup_x1 38)) t_226_38 e_cg_dup_x1
noncomputable def n_226_36 : e_Y := u_ld f_okI f_l3 n_226_37
theorem t_226_36 : e_Sn 226 36 (e_un n_226_36) := u_ldIT f_l3_eq (s_iload (i := .iload_n 3) (len := 1) hq_226 (by decide +kernel) rfl (.inr ⟨3, rfl, rfl, rfl⟩) : e_Sn 226 36 (o_load e_okI 3 37)) t_226_37
noncomputable def n_226_35 : e_Y := u_ld f_okA f_l0 n_226_36
theorem t_226_35 : e_Sn 226 35 (e_un n_226_35) := u_ldAT f_l0_eq (s_aload (i := .aload_n 0) (len := 1) hq_226 (by decide +kernel) rfl (.inr ⟨0, rfl, rfl, rfl⟩) : e_Sn 226 35 (o_load e_okR 0 36)) t_226_36
noncomputable def n_226_34 : e_Y := u_ld f_okA f_l1 n_226_35
theorem t_226_34 : e_Sn 226 34 (e_un n_226_34) := u_ldAT f_l1_eq (s_aload (i := .aload_n 1) (len := 1) hq_226 (by decide +kernel) rfl (.inr ⟨1, rfl, rfl, rfl⟩) : e_Sn 226 34 (o_load e_okR 1 35)) t_226_35
noncomputable def n_226_19 : e_Y := u_jmp y_le (u_old2 (o_cgt 22 34) 22 (u_at 22) n_226_34) (u_at 22) n_226_34
theorem t_226_19 : e_Sn 226 19 (e_un n_226_19) := u_cgtT rfl (s_cle (off := (15)) hq_226 (by decide +kernel) rfl rfl : e_Sn 226 19 (o_cgt 22 34)) u_atT t_226_34
noncomputable def n_226_18 : e_Y := u_ld f_okI f_l2 n_226_19
theorem t_226_18 : e_Sn 226 18 (e_un n_226_18) := u_ldIT f_l2_eq (s_iload (i := .iload_n 2) (len := 1) hq_226 (by decide +kernel) rfl (.inr ⟨2, rfl, rfl, rfl⟩) : e_Sn 226 18 (o_load e_okI 2 19)) t_226_19
noncomputable def n_226_17 : e_Y := u_st f_okI f_s3 n_226_18
theorem t_226_17 : e_Sn 226 17 (e_un n_226_17) := u_stIT (fun _ _ _ => f_s3_eq) (s_istore (i := .istore_n 3) (len := 1) hq_226 (by decide +kernel) rfl (.inr ⟨3, rfl, rfl, rfl⟩) : e_Sn 226 17 (o_store e_okI 3 18)) t_226_18
noncomputable def n_226_16 : e_Y := u_old (o_dup 17) n_226_17
theorem t_226_16 : e_Sn 226 16 (e_un n_226_16) := u_oldT (s_dup hq_226 (by decide +kernel) rfl : e_Sn 226 16 (o_dup 17)) t_226_17 e_cg_dup
noncomputable def n_226_15 : e_Y := u_bin a_isub (u_old (o_isub 16) n_226_16) n_226_16
theorem t_226_15 : e_Sn 226 15 (e_un n_226_15) := u_isubT (s_isub hq_226 (by decide +kernel) rfl : e_Sn 226 15 (o_isub 16)) t_226_16
noncomputable def n_226_14 : e_Y := u_push (.inl 2147483649) n_226_15
theorem t_226_14 : e_Sn 226 14 (e_un n_226_14) := u_pushT (s_iconst (n := (1)) hq_226 (by decide +kernel) rfl ⟨by decide +kernel, by decide +kernel⟩ : e_Sn 226 14 (o_push (.inl 2147483649) 15)) t_226_15
noncomputable def n_226_11 : e_Y := u_getf 18 1 (u_old (o_getf (e_f1 18 1) 14) n_226_14) n_226_14
theorem t_226_11 : e_Sn 226 11 (e_un n_226_11) := u_getfT (s_getf (C := er_18) (T := et_18) (N := 3) (ref := "java/util/ArrayList") (index := 48) (ci := 18) (k := 1) hq_226 ho_226 ⟨rfl, by decide, ei_18, (List.mem_of_getElem? (i := 1767) (by decide +kernel)), .inl rfl⟩ (by decide +kernel) rfl : e_Sn 226 11 (o_getf (e_f1 18 1) 14)) t_226_14
noncomputable def n_226_10 : e_Y := u_ld f_okA f_l0 n_226_11
theorem t_226_10 : e_Sn 226 10 (e_un n_226_10) := u_ldAT f_l0_eq (s_aload (i := .aload_n 0) (len := 1) hq_226 (by decide +kernel) rfl (.inr ⟨0, rfl, rfl, rfl⟩) : e_Sn 226 10 (o_load e_okR 0 11)) t_226_11
noncomputable def n_226_7 : e_Y := u_old (o_putf (e_f1 18 2) e_okI 10) n_226_10
theorem t_226_7 : e_Sn 226 7 (e_un n_226_7) := u_oldT (s_putf (ty0 := ey_18) (ok := e_okI) (C := er_18) (T := et_18) (N := 3) (ref := "java/util/ArrayList") (index := 63) (ci := 18) (k := 2) hq_226 ho_226 ⟨rfl, by decide, ei_18, (List.mem_of_getElem? (i := 1771) (by decide +kernel)), .inr (List.mem_of_getElem? (i := 1770) (by decide +kernel))⟩ eo_18 en_18 e_oksI (.inl rfl) (by decide +kernel) rfl : e_Sn 226 7 (o_putf (e_f1 18 2) e_okI 10)) t_226_10 (e_cg_putf (e_f1 18 2) e_okI)
noncomputable def n_226_6 : e_Y := u_bin a_iadd (u_old (o_iadd 7) n_226_7) n_226_7
theorem t_226_6 : e_Sn 226 6 (e_un n_226_6) := u_iaddT (s_iadd hq_226 (by decide +kernel) rfl : e_Sn 226 6 (o_iadd 7)) t_226_7
noncomputable def n_226_5 : e_Y := u_push (.inl 2147483649) n_226_6
theorem t_226_5 : e_Sn 226 5 (e_un n_226_5) := u_pushT (s_iconst (n := (1)) hq_226 (by decide +kernel) rfl ⟨by decide +kernel, by decide +kernel⟩ : e_Sn 226 5 (o_push (.inl 2147483649) 6)) t_226_6
noncomputable def n_226_2 : e_Y := u_getf 18 2 (u_old (o_getf (e_f1 18 2) 5) n_226_5) n_226_5
theorem t_226_2 : e_Sn 226 2 (e_un n_226_2) := u_getfT (s_getf (C := er_18) (T := et_18) (N := 3) (ref := "java/util/ArrayList") (index := 63) (ci := 18) (k := 2) hq_226 ho_226 ⟨rfl, by decide, ei_18, (List.mem_of_getElem? (i := 1771) (by decide +kernel)), .inr (List.mem_of_getElem? (i := 1770) (by decide +kernel))⟩ (by decide +kernel) rfl : e_Sn 226 2 (o_getf (e_f1 18 2) 5)) t_226_5
noncomputable def n_226_1 : e_Y := u_old (o_dup 2) n_226_2
theorem t_226_1 : e_Sn 226 1 (e_un n_226_1) := u_oldT (s_dup hq_226 (by decide +kernel) rfl : e_Sn 226 1 (o_dup 2)) t_226_2 e_cg_dup
noncomputable def n_226_0 : e_Y := u_ld f_okA f_l0 n_226_1
theorem t_226_0 : e_Sn 226 0 (e_un n_226_0) := u_ldAT f_l0_eq (s_aload (i := .aload_n 0) (len := 1) hq_226 (by decide +kernel) rfl (.inr ⟨0, rfl, rfl, rfl⟩) : e_Sn 226 0 (o_load e_okR 0 1)) t_226_1
noncomputable def e_tb_226 : e_X := (e_lf 0 (e_un n_226_0))
theorem e_tk_226 : e_Tb 226 e_tb_226 := (e_lfT t_226_0)
theorem hq_232 : (e_ml[232]?).map (·.2.1) = some prog_50_method_29_code := rfl
theorem ho_232 : (e_ml[232]?).map (·.1.cls) = some "java/util/ArrayList" := rfl
theorem hr_232 : (e_ml[232]?).map (·.2.2.2) = some (some (.object "java/lang/Object")) := rfl
noncomputable def n_232_25 : e_Y := u_retA
theorem t_232_25 : e_Sn 232 25 (e_un n_232_25) := u_retAT (s_aret (.inl ⟨_, rfl⟩) hq_232 hr_232 (by decide +kernel) : e_Sn 232 25 (o_ret e_okR))
noncomputable def n_232_24 : e_Y := u_ld f_okA f_l3 n_232_25
theorem t_232_24 : e_Sn 232 24 (e_un n_232_24) := u_ldAT f_l3_eq (s_aload (i := .aload_n 3) (len := 1) hq_232 (by decide +kernel) rfl (.inr ⟨3, rfl, rfl, rfl⟩) : e_Sn 232 24 (o_load e_okR 3 25)) t_232_25
noncomputable def n_232_21 : e_Y := u_callV 18 226 4 23 3 n_226_0 n_232_24
theorem t_232_21 : e_Sn 232 21 (e_un n_232_21) := u_callVT rfl (s_callV (ci := 18) (C := er_18) (T := et_18) (N := 3) (index := 144) hq_232 ho_232 hy_226 hp_226 hc_226 hi_226 hd_226 (List.mem_of_getElem? (i := 2027) (by decide +kernel)) hs_226 (List.mem_of_getElem? (i := 75) (by decide +kernel)) rfl (by decide +kernel) rfl : e_Sn 232 21 (o_callV (e_s1 18 226 4) 3 24)) t_226_0 t_232_24
noncomputable def n_232_20 : e_Y := u_ld f_okI f_l1 n_232_21
theorem t_232_20 : e_Sn 232 20 (e_un n_232_20) := u_ldIT f_l1_eq (s_iload (i := .iload_n 1) (len := 1) hq_232 (by decide +kernel) rfl (.inr ⟨1, rfl, rfl, rfl⟩) : e_Sn 232 20 (o_load e_okI 1 21)) t_232_21
noncomputable def n_232_19 : e_Y := u_ld f_okA f_l2 n_232_20
theorem t_232_19 : e_Sn 232 19 (e_un n_232_19) := u_ldAT f_l2_eq (s_aload (i := .aload_n 2) (len := 1) hq_232 (by decide +kernel) rfl (.inr ⟨2, rfl, rfl, rfl⟩) : e_Sn 232 19 (o_load e_okR 2 20)) t_232_20
noncomputable def n_232_18 : e_Y := u_ld f_okA f_l0 n_232_19
theorem t_232_18 : e_Sn 232 18 (e_un n_232_18) := u_ldAT f_l0_eq (s_aload (i := .aload_n 0) (len := 1) hq_232 (by decide +kernel) rfl (.inr ⟨0, rfl, rfl, rfl⟩) : e_Sn 232 18 (o_load e_okR 0 19)) t_232_19
noncomputable def n_232_17 : e_Y := u_st f_okA f_s3 n_232_18
theorem t_232_17 : e_Sn 232 17 (e_un n_232_17) := u_stAT (fun _ _ _ => f_s3_eq) (s_astore (i := .astore_n 3) (len := 1) hq_232 (by decide +kernel) rfl (.inr ⟨3, rfl, rfl, rfl⟩) : e_Sn 232 17 (o_store e_okR 3 18)) t_232_18
noncomputable def n_232_16 : e_Y := u_ald 3 (u_old (o_aldO 3 17) n_232_17) n_232_17
theorem t_232_16 : e_Sn 232 16 (e_un n_232_16) := u_aldOT (s_aald (tc := 0) rfl hq_232 (by decide +kernel) rfl : e_Sn 232 16 (o_aldO 3 17)) t_232_17
noncomputable def n_232_15 : e_Y := u_ld f_okI f_l1 n_232_16
theorem t_232_15 : e_Sn 232 15 (e_un n_232_15) := u_ldIT f_l1_eq (s_iload (i := .iload_n 1) (len := 1) hq_232 (by decide +kernel) rfl (.inr ⟨1, rfl, rfl, rfl⟩) : e_Sn 232 15 (o_load e_okI 1 16)) t_232_16
noncomputable def n_232_14 : e_Y := u_ld f_okA f_l2 n_232_15
theorem t_232_14 : e_Sn 232 14 (e_un n_232_14) := u_ldAT f_l2_eq (s_aload (i := .aload_n 2) (len := 1) hq_232 (by decide +kernel) rfl (.inr ⟨2, rfl, rfl, rfl⟩) : e_Sn 232 14 (o_load e_okR 2 15)) t_232_15
noncomputable def n_232_13 : e_Y := u_st f_okA f_s2 n_232_14
theorem t_232_13 : e_Sn 232 13 (e_un n_232_13) := u_stAT (fun _ _ _ => f_s2_eq) (s_astore (i := .astore_n 2) (len := 1) hq_232 (by decide +kernel) rfl (.inr ⟨2, rfl, rfl, rfl⟩) : e_Sn 232 13 (o_store e_okR 2 14)) t_232_14
noncomputable def n_232_10 : e_Y := u_getf 18 0 (u_old (o_getf (e_f1 18 0) 13) n_232_13) n_232_13
theorem t_232_10 : e_Sn 232 10 (e_un n_232_10) := u_getfT (s_getf (C := er_18) (T := et_18) (N := 3) (ref := "java/util/ArrayList") (index := 9) (ci := 18) (k := 0) hq_232 ho_232 ⟨rfl, by decide, ei_18, (List.mem_of_getElem? (i := 1764) (by decide +kernel)), .inl rfl⟩ (by decide +kernel) rfl : e_Sn 232 10 (o_getf (e_f1 18 0) 13)) t_232_13
noncomputable def n_232_9 : e_Y := u_ld f_okA f_l0 n_232_10
theorem t_232_9 : e_Sn 232 9 (e_un n_232_9) := u_ldAT f_l0_eq (s_aload (i := .aload_n 0) (len := 1) hq_232 (by decide +kernel) rfl (.inr ⟨0, rfl, rfl, rfl⟩) : e_Sn 232 9 (o_load e_okR 0 10)) t_232_10
noncomputable def n_232_8 : e_Y := u_pop n_232_9
theorem t_232_8 : e_Sn 232 8 (e_un n_232_8) := u_popT (s_pop hq_232 (by decide +kernel) rfl : e_Sn 232 8 (o_pop 9)) t_232_9
noncomputable def n_232_5 : e_Y := u_callS 237 2 21 2 n_237_0 n_232_8
theorem t_232_5 : e_Sn 232 5 (e_un n_232_5) := u_callST rfl (s_callS (index := 118) hq_232 ho_232 hy_237 hp_237 hc_237 hi_237 hd_237 (List.mem_of_getElem? (i := 2021) (by decide +kernel)) hs_237 (by decide +kernel) rfl : e_Sn 232 5 (o_callS 237 2 2 8)) t_237_0 t_232_8
noncomputable def n_232_2 : e_Y := u_getf 18 1 (u_old (o_getf (e_f1 18 1) 5) n_232_5) n_232_5
theorem t_232_2 : e_Sn 232 2 (e_un n_232_2) := u_getfT (s_getf (C := er_18) (T := et_18) (N := 3) (ref := "java/util/ArrayList") (index := 48) (ci := 18) (k := 1) hq_232 ho_232 ⟨rfl, by decide, ei_18, (List.mem_of_getElem? (i := 1767) (by decide +kernel)), .inl rfl⟩ (by decide +kernel) rfl : e_Sn 232 2 (o_getf (e_f1 18 1) 5)) t_232_5
noncomputable def n_232_1 : e_Y := u_ld f_okA f_l0 n_232_2
theorem t_232_1 : e_Sn 232 1 (e_un n_232_1) := u_ldAT f_l0_eq (s_aload (i := .aload_n 0) (len := 1) hq_232 (by decide +kernel) rfl (.inr ⟨0, rfl, rfl, rfl⟩) : e_Sn 232 1 (o_load e_okR 0 2)) t_232_2
noncomputable def n_232_0 : e_Y := u_ld f_okI f_l1 n_232_1
theorem t_232_0 : e_Sn 232 0 (e_un n_232_0) := u_ldIT f_l1_eq (s_iload (i := .iload_n 1) (len := 1) hq_232 (by decide +kernel) rfl (.inr ⟨1, rfl, rfl, rfl⟩) : e_Sn 232 0 (o_load e_okI 1 1)) t_232_1
noncomputable def e_tb_232 : e_X := (e_lf 0 (e_un n_232_0))
theorem e_tk_232 : e_Tb 232 e_tb_232 := (e_lfT t_232_0)
theorem hq_211 : (e_ml[211]?).map (·.2.1) = some prog_20_method_4_code := rfl
theorem ho_211 : (e_ml[211]?).map (·.1.cls) = some "PlateroomprinterModel$Run" := rfl
theorem hr_211 : (e_ml[211]?).map (·.2.2.2) = some (some .boolean) := rfl
noncomputable def n_211_75 : e_Y := u_tab (o_ret e_okZ)
theorem t_211_75 : e_Sn 211 75 (e_un n_211_75) := u_tabT (s_zret hq_211 hr_211 (by decide +kernel) : e_Sn 211 75 (o_ret e_okZ))
noncomputable def n_211_74 : e_Y := u_push (.inl 2147483648) n_211_75
theorem t_211_74 : e_Sn 211 74 (e_un n_211_74) := u_pushT (s_iconst (n := (0)) hq_211 (by decide +kernel) rfl ⟨by decide +kernel, by decide +kernel⟩ : e_Sn 211 74 (o_push (.inl 2147483648) 75)) t_211_75
noncomputable def n_211_67 : e_Y := u_if y_ne0 (u_old2 (o_ifeq 70 74) 70 (u_at 70) n_211_74) (u_at 70) n_211_74
theorem t_211_67 : e_Sn 211 67 (e_un n_211_67) := u_ifeqT rfl (s_ifne (off := (7)) hq_211 (by decide +kernel) rfl rfl : e_Sn 211 67 (o_ifeq 70 74)) u_atT t_211_74
noncomputable def n_211_64 : e_Y := u_callV 18 230 1 20 1 n_230_0 n_211_67
theorem t_211_64 : e_Sn 211 64 (e_un n_211_64) := u_callVT rfl (s_callV (ci := 18) (C := er_18) (T := et_18) (N := 3) (index := 81) hq_211 ho_211 hy_230 hp_230 hc_230 hi_230 hd_230 (List.mem_of_getElem? (i := 2176) (by decide +kernel)) hs_230 (List.mem_of_getElem? (i := 2015) (by decide +kernel)) rfl (by decide +kernel) rfl : e_Sn 211 64 (o_callV (e_s1 18 230 1) 1 67)) t_230_0 t_211_67
noncomputable def n_211_61 : e_Y := u_getf 16 1 (u_old (o_getf (e_f1 16 1) 64) n_211_64) n_211_64
theorem t_211_61 : e_Sn 211 61 (e_un n_211_61) := u_getfT (s_getf (C := er_16) (T := et_16) (N := 5) (ref := "PlateroomprinterModel$Run") (index := 12) (ci := 16) (k := 1) hq_211 ho_211 ⟨rfl, by decide, ei_16, (List.mem_of_getElem? (i := 2151) (by decide +kernel)), .inl rfl⟩ (by decide +kernel) rfl : e_Sn 211 61 (o_getf (e_f1 16 1) 64)) t_211_64
noncomputable def n_211_60 : e_Y := u_ld f_okA f_l0 n_211_61
theorem t_211_60 : e_Sn 211 60 (e_un n_211_60) := u_ldAT f_l0_eq (s_aload (i := .aload_n 0) (len := 1) hq_211 (by decide +kernel) rfl (.inr ⟨0, rfl, rfl, rfl⟩) : e_Sn 211 60 (o_load e_okR 0 61)) t_211_61
noncomputable def n_211_57 : e_Y := (u_at 0)
theorem t_211_57 : e_Sn 211 57 (e_un n_211_57) := u_gotoT (s_goto (off := (-57)) hq_211 (by decide +kernel) rfl : e_Sn 211 57 (o_goto 0)) u_atT
noncomputable def n_211_56 : e_Y := u_pop n_211_57
theorem t_211_56 : e_Sn 211 56 (e_un n_211_56) := u_popT (s_pop hq_211 (by decide +kernel) rfl : e_Sn 211 56 (o_pop 57)) t_211_57
noncomputable def n_211_53 : e_Y := u_callV 18 232 4 23 2 n_232_0 n_211_56
theorem t_211_53 : e_Sn 211 53 (e_un n_211_53) := u_callVT rfl (s_callV (ci := 18) (C := er_18) (T := et_18) (N := 3) (index := 95) hq_211 ho_211 hy_232 hp_232 hc_232 hi_232 hd_232 (List.mem_of_getElem? (i := 2253) (by decide +kernel)) hs_232 (List.mem_of_getElem? (i := 2019) (by decide +kernel)) rfl (by decide +kernel) rfl : e_Sn 211 53 (o_callV (e_s1 18 232 4) 2 56)) t_232_0 t_211_56
noncomputable def n_211_52 : e_Y := u_bin a_isub (u_old (o_isub 53) n_211_53) n_211_53
theorem t_211_52 : e_Sn 211 52 (e_un n_211_52) := u_isubT (s_isub hq_211 (by decide +kernel) rfl : e_Sn 211 52 (o_isub 53)) t_211_53
noncomputable def n_211_51 : e_Y := u_push (.inl 2147483649) n_211_52
theorem t_211_51 : e_Sn 211 51 (e_un n_211_51) := u_pushT (s_iconst (n := (1)) hq_211 (by decide +kernel) rfl ⟨by decide +kernel, by decide +kernel⟩ : e_Sn 211 51 (o_push (.inl 2147483649) 52)) t_211_52
noncomputable def n_211_48 : e_Y := u_callV 18 234 1 20 1 n_234_0 n_211_51
theorem t_211_48 : e_Sn 211 48 (e_un n_211_48) := u_callVT rfl (s_callV (ci := 18) (C := er_18) (T := et_18) (N := 3) (index := 38) hq_211 ho_211 hy_234 hp_234 hc_234 hi_234 hd_234 (List.mem_of_getElem? (i := 2181) (by decide +kernel)) hs_234 (List.mem_of_getElem? (i := 2002) (by decide +kernel)) rfl (by decide +kernel) rfl : e_Sn 211 48 (o_callV (e_s1 18 234 1) 1 51)) t_234_0 t_211_51
noncomputable def n_211_45 : e_Y := u_getf 16 1 (u_old (o_getf (e_f1 16 1) 48) n_211_48) n_211_48
theorem t_211_45 : e_Sn 211 45 (e_un n_211_45) := u_getfT (s_getf (C := er_16) (T := et_16) (N := 5) (ref := "PlateroomprinterModel$Run") (index := 12) (ci := 16) (k := 1) hq_211 ho_211 ⟨rfl, by decide, ei_16, (List.mem_of_getElem? (i := 2151) (by decide +kernel)), .inl rfl⟩ (by decide +kernel) rfl : e_Sn 211 45 (o_getf (e_f1 16 1) 48)) t_211_48
noncomputable def n_211_44 : e_Y := u_ld f_okA f_l0 n_211_45
theorem t_211_44 : e_Sn 211 44 (e_un n_211_44) := u_ldAT f_l0_eq (s_aload (i := .aload_n 0) (len := 1) hq_211 (by decide +kernel) rfl (.inr ⟨0, rfl, rfl, rfl⟩) : e_Sn 211 44 (o_load e_okR 0 45)) t_211_45
noncomputable def n_211_41 : e_Y := u_getf 16 1 (u_old (o_getf (e_f1 16 1) 44) n_211_44) n_211_44
theorem t_211_41 : e_Sn 211 41 (e_un n_211_41) := u_getfT (s_getf (C := er_16) (T := et_16) (N := 5) (ref := "PlateroomprinterModel$Run") (index := 12) (ci := 16) (k := 1) hq_211 ho_211 ⟨rfl, by decide, ei_16, (List.mem_of_getElem? (i := 2151) (by decide +kernel)), .inl rfl⟩ (by decide +kernel) rfl : e_Sn 211 41 (o_getf (e_f1 16 1) 44)) t_211_44
noncomputable def n_211_40 : e_Y := u_ld f_okA f_l0 n_211_41
theorem t_211_40 : e_Sn 211 40 (e_un n_211_40) := u_ldAT f_l0_eq (s_aload (i := .aload_n 0) (len := 1) hq_211 (by decide +kernel) rfl (.inr ⟨0, rfl, rfl, rfl⟩) : e_Sn 211 40 (o_load e_okR 0 41)) t_211_41
noncomputable def n_211_29 : e_Y := u_if y_ne0 (u_old2 (o_ifeq 40 32) 40 n_211_40 (u_at 32)) n_211_40 (u_at 32)
theorem t_211_29 : e_Sn 211 29 (e_un n_211_29) := u_ifeqT rfl (s_ifeq (off := (11)) hq_211 (by decide +kernel) rfl rfl : e_Sn 211 29 (o_ifeq 40 32)) t_211_40 u_atT
noncomputable def n_211_26 : e_Y := u_getf 15 2 (u_old (o_getf (e_f1 15 2) 29) n_211_29) n_211_29
theorem t_211_26 : e_Sn 211 26 (e_un n_211_26) := u_getfT (s_getf (C := er_15) (T := et_15) (N := 8) (ref := "PlateroomprinterModel$Row") (index := 87) (ci := 15) (k := 2) hq_211 ho_211 ⟨rfl, by decide, ei_15, (List.mem_of_getElem? (i := 2126) (by decide +kernel)), .inl rfl⟩ (by decide +kernel) rfl : e_Sn 211 26 (o_getf (e_f1 15 2) 29)) t_211_29
noncomputable def n_211_25 : e_Y := u_ld f_okA f_l1 n_211_26
theorem t_211_25 : e_Sn 211 25 (e_un n_211_25) := u_ldAT f_l1_eq (s_aload (i := .aload_n 1) (len := 1) hq_211 (by decide +kernel) rfl (.inr ⟨1, rfl, rfl, rfl⟩) : e_Sn 211 25 (o_load e_okR 1 26)) t_211_26
noncomputable def n_211_24 : e_Y := u_st f_okA f_s1 n_211_25
theorem t_211_24 : e_Sn 211 24 (e_un n_211_24) := u_stAT (fun _ _ _ => f_s1_eq) (s_astore (i := .astore_n 1) (len := 1) hq_211 (by decide +kernel) rfl (.inr ⟨1, rfl, rfl, rfl⟩) : e_Sn 211 24 (o_store e_okR 1 25)) t_211_25
noncomputable def n_211_21 : e_Y := u_callV 16 212 1 20 1 n_212_0 n_211_24
theorem t_211_21 : e_Sn 211 21 (e_un n_211_21) := u_callVT rfl (s_callV (ci := 16) (C := er_16) (T := et_16) (N := 5) (index := 53) hq_211 ho_211 hy_212 hp_212 hc_212 hi_212 hd_212 (List.mem_of_getElem? (i := 2177) (by decide +kernel)) hs_212 (List.mem_of_getElem? (i := 77) (by decide +kernel)) rfl (by decide +kernel) rfl : e_Sn 211 21 (o_callV (e_s1 16 212 1) 1 24)) t_212_0 t_211_24
noncomputable def n_211_20 : e_Y := u_ld f_okA f_l0 n_211_21
theorem t_211_20 : e_Sn 211 20 (e_un n_211_20) := u_ldAT f_l0_eq (s_aload (i := .aload_n 0) (len := 1) hq_211 (by decide +kernel) rfl (.inr ⟨0, rfl, rfl, rfl⟩) : e_Sn 211 20 (o_load e_okR 0 21)) t_211_21
noncomputable def n_211_17 : e_Y := u_if y_ne0 (u_old2 (o_ifeq 60 20) 60 n_211_60 n_211_20) n_211_60 n_211_20
theorem t_211_17 : e_Sn 211 17 (e_un n_211_17) := u_ifeqT rfl (s_ifeq (off := (43)) hq_211 (by decide +kernel) rfl rfl : e_Sn 211 17 (o_ifeq 60 20)) t_211_60 t_211_20
noncomputable def n_211_14 : e_Y := u_callV 15 208 1 20 1 n_208_0 n_211_17
theorem t_211_14 : e_Sn 211 14 (e_un n_211_14) := u_callVT rfl (s_callV (ci := 15) (C := er_15) (T := et_15) (N := 8) (index := 84) hq_211 ho_211 hy_208 hp_208 hc_208 hi_208 hd_208 (List.mem_of_getElem? (i := 2183) (by decide +kernel)) hs_208 (List.mem_of_getElem? (i := 2185) (by decide +kernel)) rfl (by decide +kernel) rfl : e_Sn 211 14 (o_callV (e_s1 15 208 1) 1 17)) t_208_0 t_211_17
noncomputable def n_211_11 : e_Y := u_callV 16 212 1 20 1 n_212_0 n_211_14
theorem t_211_11 : e_Sn 211 11 (e_un n_211_11) := u_callVT rfl (s_callV (ci := 16) (C := er_16) (T := et_16) (N := 5) (index := 53) hq_211 ho_211 hy_212 hp_212 hc_212 hi_212 hd_212 (List.mem_of_getElem? (i := 2177) (by decide +kernel)) hs_212 (List.mem_of_getElem? (i := 77) (by decide +kernel)) rfl (by decide +kernel) rfl : e_Sn 211 11 (o_callV (e_s1 16 212 1) 1 14)) t_212_0 t_211_14
noncomputable def n_211_10 : e_Y := u_ld f_okA f_l0 n_211_11
theorem t_211_10 : e_Sn 211 10 (e_un n_211_10) := u_ldAT f_l0_eq (s_aload (i := .aload_n 0) (len := 1) hq_211 (by decide +kernel) rfl (.inr ⟨0, rfl, rfl, rfl⟩) : e_Sn 211 10 (o_load e_okR 0 11)) t_211_11
noncomputable def n_211_7 : e_Y := u_if y_ne0 (u_old2 (o_ifeq 10 60) 10 n_211_10 n_211_60) n_211_10 n_211_60
theorem t_211_7 : e_Sn 211 7 (e_un n_211_7) := u_ifeqT rfl (s_ifne (off := (53)) hq_211 (by decide +kernel) rfl rfl : e_Sn 211 7 (o_ifeq 10 60)) t_211_10 t_211_60
noncomputable def n_211_4 : e_Y := u_callV 18 230 1 20 1 n_230_0 n_211_7
theorem t_211_4 : e_Sn 211 4 (e_un n_211_4) := u_callVT rfl (s_callV (ci := 18) (C := er_18) (T := et_18) (N := 3) (index := 81) hq_211 ho_211 hy_230 hp_230 hc_230 hi_230 hd_230 (List.mem_of_getElem? (i := 2176) (by decide +kernel)) hs_230 (List.mem_of_getElem? (i := 2015) (by decide +kernel)) rfl (by decide +kernel) rfl : e_Sn 211 4 (o_callV (e_s1 18 230 1) 1 7)) t_230_0 t_211_7
noncomputable def n_211_1 : e_Y := u_getf 16 1 (u_old (o_getf (e_f1 16 1) 4) n_211_4) n_211_4
theorem t_211_1 : e_Sn 211 1 (e_un n_211_1) := u_getfT (s_getf (C := er_16) (T := et_16) (N := 5) (ref := "PlateroomprinterModel$Run") (index := 12) (ci := 16) (k := 1) hq_211 ho_211 ⟨rfl, by decide, ei_16, (List.mem_of_getElem? (i := 2151) (by decide +kernel)), .inl rfl⟩ (by decide +kernel) rfl : e_Sn 211 1 (o_getf (e_f1 16 1) 4)) t_211_4
noncomputable def n_211_0 : e_Y := u_ld f_okA f_l0 n_211_1
theorem t_211_0 : e_Sn 211 0 (e_un n_211_0) := u_ldAT f_l0_eq (s_aload (i := .aload_n 0) (len := 1) hq_211 (by decide +kernel) rfl (.inr ⟨0, rfl, rfl, rfl⟩) : e_Sn 211 0 (o_load e_okR 0 1)) t_211_1
noncomputable def e_tb_211 : e_X := (e_lf 0 (e_un n_211_0))
theorem e_tk_211 : e_Tb 211 e_tb_211 := (e_lfT t_211_0)
theorem hq_210 : (e_ml[210]?).map (·.2.1) = some prog_20_method_3_code := rfl
theorem ho_210 : (e_ml[210]?).map (·.1.cls) = some "PlateroomprinterModel$Run" := rfl
theorem hr_210 : (e_ml[210]?).map (·.2.2.2) = some none := rfl
noncomputable def n_210_173 : e_Y := u_tab (o_retv)
theorem t_210_173 : e_Sn 210 173 (e_un n_210_173) := u_tabT (s_vret hq_210 hr_210 (by decide +kernel) : e_Sn 210 173 (o_retv))
noncomputable def n_210_170 : e_Y := u_old (o_putf (e_f1 13 10) e_okI 173) n_210_173
theorem t_210_170 : e_Sn 210 170 (e_un n_210_170) := u_oldT (s_putf (ty0 := ey_13) (ok := e_okI) (C := er_13) (T := et_13) (N := 13) (ref := "PlateroomprinterModel$Machine") (index := 78) (ci := 13) (k := 10) hq_210 ho_210 ⟨rfl, by decide, ei_13, (List.mem_of_getElem? (i := 1921) (by decide +kernel)), .inl rfl⟩ eo_13 en_13 e_oksI (.inl rfl) (by decide +kernel) rfl : e_Sn 210 170 (o_putf (e_f1 13 10) e_okI 173)) t_210_173 (e_cg_putf (e_f1 13 10) e_okI)
noncomputable def n_210_167 : e_Y := u_getf 16 2 (u_old (o_getf (e_f1 16 2) 170) n_210_170) n_210_170
theorem t_210_167 : e_Sn 210 167 (e_un n_210_167) := u_getfT (s_getf (C := er_16) (T := et_16) (N := 5) (ref := "PlateroomprinterModel$Run") (index := 57) (ci := 16) (k := 2) hq_210 ho_210 ⟨rfl, by decide, ei_16, (List.mem_of_getElem? (i := 2152) (by decide +kernel)), .inl rfl⟩ (by decide +kernel) rfl : e_Sn 210 167 (o_getf (e_f1 16 2) 170)) t_210_170
noncomputable def n_210_166 : e_Y := u_ld f_okA f_l0 n_210_167
theorem t_210_166 : e_Sn 210 166 (e_un n_210_166) := u_ldAT f_l0_eq (s_aload (i := .aload_n 0) (len := 1) hq_210 (by decide +kernel) rfl (.inr ⟨0, rfl, rfl, rfl⟩) : e_Sn 210 166 (o_load e_okR 0 167)) t_210_167
noncomputable def n_210_163 : e_Y := u_getf 16 0 (u_old (o_getf (e_f1 16 0) 166) n_210_166) n_210_166
theorem t_210_163 : e_Sn 210 163 (e_un n_210_163) := u_getfT (s_getf (C := er_16) (T := et_16) (N := 5) (ref := "PlateroomprinterModel$Run") (index := 25) (ci := 16) (k := 0) hq_210 ho_210 ⟨rfl, by decide, ei_16, (List.mem_of_getElem? (i := 2150) (by decide +kernel)), .inl rfl⟩ (by decide +kernel) rfl : e_Sn 210 163 (o_getf (e_f1 16 0) 166)) t_210_166
noncomputable def n_210_162 : e_Y := u_ld f_okA f_l0 n_210_163
theorem t_210_162 : e_Sn 210 162 (e_un n_210_162) := u_ldAT f_l0_eq (s_aload (i := .aload_n 0) (len := 1) hq_210 (by decide +kernel) rfl (.inr ⟨0, rfl, rfl, rfl⟩) : e_Sn 210 162 (o_load e_okR 0 163)) t_210_163
noncomputable def n_210_159 : e_Y := u_old (o_putf (e_f1 13 9) e_okI 162) n_210_162
theorem t_210_159 : e_Sn 210 159 (e_un n_210_159) := u_oldT (s_putf (ty0 := ey_13) (ok := e_okI) (C := er_13) (T := et_13) (N := 13) (ref := "PlateroomprinterModel$Machine") (index := 77) (ci := 13) (k := 9) hq_210 ho_210 ⟨rfl, by decide, ei_13, (List.mem_of_getElem? (i := 1918) (by decide +kernel)), .inl rfl⟩ eo_13 en_13 e_oksI (.inl rfl) (by decide +kernel) rfl : e_Sn 210 159 (o_putf (e_f1 13 9) e_okI 162)) t_210_162 (e_cg_putf (e_f1 13 9) e_okI)
noncomputable def n_210_158 : e_Y := u_bin a_iadd (u_old (o_iadd 159) n_210_159) n_210_159
theorem t_210_158 : e_Sn 210 158 (e_un n_210_158) := u_iaddT (s_iadd hq_210 (by decide +kernel) rfl : e_Sn 210 158 (o_iadd 159)) t_210_159
noncomputable def n_210_155 : e_Y := u_getf 16 2 (u_old (o_getf (e_f1 16 2) 158) n_210_158) n_210_158
theorem t_210_155 : e_Sn 210 155 (e_un n_210_155) := u_getfT (s_getf (C := er_16) (T := et_16) (N := 5) (ref := "PlateroomprinterModel$Run") (index := 57) (ci := 16) (k := 2) hq_210 ho_210 ⟨rfl, by decide, ei_16, (List.mem_of_getElem? (i := 2152) (by decide +kernel)), .inl rfl⟩ (by decide +kernel) rfl : e_Sn 210 155 (o_getf (e_f1 16 2) 158)) t_210_158
noncomputable def n_210_154 : e_Y := u_ld f_okA f_l0 n_210_155
theorem t_210_154 : e_Sn 210 154 (e_un n_210_154) := u_ldAT f_l0_eq (s_aload (i := .aload_n 0) (len := 1) hq_210 (by decide +kernel) rfl (.inr ⟨0, rfl, rfl, rfl⟩) : e_Sn 210 154 (o_load e_okR 0 155)) t_210_155
noncomputable def n_210_151 : e_Y := u_getf 13 9 (u_old (o_getf (e_f1 13 9) 154) n_210_154) n_210_154
theorem t_210_151 : e_Sn 210 151 (e_un n_210_151) := u_getfT (s_getf (C := er_13) (T := et_13) (N := 13) (ref := "PlateroomprinterModel$Machine") (index := 77) (ci := 13) (k := 9) hq_210 ho_210 ⟨rfl, by decide, ei_13, (List.mem_of_getElem? (i := 1918) (by decide +kernel)), .inl rfl⟩ (by decide +kernel) rfl : e_Sn 210 151 (o_getf (e_f1 13 9) 154)) t_210_154
noncomputable def n_210_150 : e_Y := u_old (o_dup 151) n_210_151
theorem t_210_150 : e_Sn 210 150 (e_un n_210_150) := u_oldT (s_dup hq_210 (by decide +kernel) rfl : e_Sn 210 150 (o_dup 151)) t_210_151 e_cg_dup
noncomputable def n_210_147 : e_Y := u_getf 16 0 (u_old (o_getf (e_f1 16 0) 150) n_210_150) n_210_150
theorem t_210_147 : e_Sn 210 147 (e_un n_210_147) := u_getfT (s_getf (C := er_16) (T := et_16) (N := 5) (ref := "PlateroomprinterModel$Run") (index := 25) (ci := 16) (k := 0) hq_210 ho_210 ⟨rfl, by decide, ei_16, (List.mem_of_getElem? (i := 2150) (by decide +kernel)), .inl rfl⟩ (by decide +kernel) rfl : e_Sn 210 147 (o_getf (e_f1 16 0) 150)) t_210_150
noncomputable def n_210_146 : e_Y := u_ld f_okA f_l0 n_210_147
theorem t_210_146 : e_Sn 210 146 (e_un n_210_146) := u_ldAT f_l0_eq (s_aload (i := .aload_n 0) (len := 1) hq_210 (by decide +kernel) rfl (.inr ⟨0, rfl, rfl, rfl⟩) : e_Sn 210 146 (o_load e_okR 0 147)) t_210_147
noncomputable def n_210_4 : e_Y := u_if y_ne0 (u_old2 (o_ifeq 146 7) 146 n_210_146 (u_at 7)) n_210_146 (u_at 7)
theorem t_210_4 : e_Sn 210 4 (e_un n_210_4) := u_ifeqT rfl (s_ifeq (off := (142)) hq_210 (by decide +kernel) rfl rfl : e_Sn 210 4 (o_ifeq 146 7)) t_210_146 u_atT
noncomputable def n_210_1 : e_Y := u_callV 16 211 2 21 1 n_211_0 n_210_4
theorem t_210_1 : e_Sn 210 1 (e_un n_210_1) := u_callVT rfl (s_callV (ci := 16) (C := er_16) (T := et_16) (N := 5) (index := 46) hq_210 ho_210 hy_211 hp_211 hc_211 hi_211 hd_211 (List.mem_of_getElem? (i := 2172) (by decide +kernel)) hs_211 (List.mem_of_getElem? (i := 76) (by decide +kernel)) rfl (by decide +kernel) rfl : e_Sn 210 1 (o_callV (e_s1 16 211 2) 1 4)) t_211_0 t_210_4
noncomputable def n_210_0 : e_Y := u_ld f_okA f_l0 n_210_1
theorem t_210_0 : e_Sn 210 0 (e_un n_210_0) := u_ldAT f_l0_eq (s_aload (i := .aload_n 0) (len := 1) hq_210 (by decide +kernel) rfl (.inr ⟨0, rfl, rfl, rfl⟩) : e_Sn 210 0 (o_load e_okR 0 1)) t_210_1
noncomputable def e_tb_210 : e_X := (e_lf 0 (e_un n_210_0))
theorem e_tk_210 : e_Tb 210 e_tb_210 := (e_lfT t_210_0)
theorem hq_191 : (e_ml[191]?).map (·.2.1) = some prog_14_method_31_code := rfl
theorem ho_191 : (e_ml[191]?).map (·.1.cls) = some "PlateroomprinterModel" := rfl
theorem hr_191 : (e_ml[191]?).map (·.2.2.2) = some (some .int) := rfl
noncomputable def n_191_74 : e_Y := u_retI
theorem t_191_74 : e_Sn 191 74 (e_un n_191_74) := u_retIT (s_iret hq_191 hr_191 (by decide +kernel) : e_Sn 191 74 (o_ret e_okI))
noncomputable def n_191_71 : e_Y := u_callV 12 150 4 23 4 n_150_0 n_191_74
theorem t_191_71 : e_Sn 191 71 (e_un n_191_71) := u_callVT rfl (s_callV (ci := 12) (C := er_12) (T := et_12) (N := 5) (index := 177) hq_191 ho_191 hy_150 hp_150 hc_150 hi_150 hd_150 (List.mem_of_getElem? (i := 2891) (by decide +kernel)) hs_150 (List.mem_of_getElem? (i := 121) (by decide +kernel)) rfl (by decide +kernel) rfl : e_Sn 191 71 (o_callV (e_s1 12 150 4) 4 74)) t_150_0 t_191_74
noncomputable def n_191_70 : e_Y := u_push (.inl 2147483647) n_191_71
theorem t_191_70 : e_Sn 191 70 (e_un n_191_70) := u_pushT (s_iconst (n := (-1)) hq_191 (by decide +kernel) rfl ⟨by decide +kernel, by decide +kernel⟩ : e_Sn 191 70 (o_push (.inl 2147483647) 71)) t_191_71
noncomputable def n_191_69 : e_Y := u_push (.inl 2147483647) n_191_70
theorem t_191_69 : e_Sn 191 69 (e_un n_191_69) := u_pushT (s_iconst (n := (-1)) hq_191 (by decide +kernel) rfl ⟨by decide +kernel, by decide +kernel⟩ : e_Sn 191 69 (o_push (.inl 2147483647) 70)) t_191_70
noncomputable def n_191_68 : e_Y := u_push (.inl 2147483648) n_191_69
theorem t_191_68 : e_Sn 191 68 (e_un n_191_68) := u_pushT (s_iconst (n := (0)) hq_191 (by decide +kernel) rfl ⟨by decide +kernel, by decide +kernel⟩ : e_Sn 191 68 (o_push (.inl 2147483648) 69)) t_191_69
noncomputable def n_191_67 : e_Y := u_ld f_okA f_l0 n_191_68
theorem t_191_67 : e_Sn 191 67 (e_un n_191_67) := u_ldAT f_l0_eq (s_aload (i := .aload_n 0) (len := 1) hq_191 (by decide +kernel) rfl (.inr ⟨0, rfl, rfl, rfl⟩) : e_Sn 191 67 (o_load e_okR 0 68)) t_191_68
noncomputable def n_191_64 : e_Y := u_old (o_putf (e_f1 12 2) e_okR 67) n_191_67
theorem t_191_64 : e_Sn 191 64 (e_un n_191_64) := u_oldT (s_putf (ty0 := ey_12) (ok := e_okR) (C := er_12) (T := et_12) (N := 5) (ref := "PlateroomprinterModel") (index := 19) (ci := 12) (k := 2) hq_191 ho_191 ⟨rfl, by decide, ei_12, (List.mem_of_getElem? (i := 1960) (by decide +kernel)), .inl rfl⟩ eo_12 en_12 e_oksR (.inl rfl) (by decide +kernel) rfl : e_Sn 191 64 (o_putf (e_f1 12 2) e_okR 67)) t_191_67 (e_cg_putf (e_f1 12 2) e_okR)
noncomputable def n_191_61 : e_Y := u_tab (o_callI 222 1 1 64)
theorem t_191_61 : e_Sn 191 61 (e_un n_191_61) := u_tabT (s_callI (index := 18) hq_191 ho_191 hy_222 hp_222 hc_222 hi_222 hd_222 (List.mem_of_getElem? (i := 1957) (by decide +kernel)) rfl rfl hs_222 (by decide +kernel) rfl : e_Sn 191 61 (o_callI 222 1 1 64))
noncomputable def n_191_60 : e_Y := u_old (o_dup 61) n_191_61
theorem t_191_60 : e_Sn 191 60 (e_un n_191_60) := u_oldT (s_dup hq_191 (by decide +kernel) rfl : e_Sn 191 60 (o_dup 61)) t_191_61 e_cg_dup
noncomputable def n_191_57 : e_Y := u_tab (o_new 18 3 ef_18 60)
theorem t_191_57 : e_Sn 191 57 (e_un n_191_57) := u_tabT (s_new (index := 16) (ci := 18) (N := 3) (C := er_18) (T := et_18) (ty0 := ey_18) (fv := eg_18) hq_191 ho_191 rfl ei_18 eo_18 (List.mem_of_getElem? (i := 1956) (by decide +kernel)) (List.mem_of_getElem? (i := 1751) (by decide +kernel)) (List.mem_of_getElem? (i := 155) (by decide +kernel)) eh_18 rfl (e_newrel ek_18) (by decide +kernel) rfl : e_Sn 191 57 (o_new 18 3 ef_18 60))
noncomputable def n_191_56 : e_Y := u_ld f_okA f_l0 n_191_57
theorem t_191_56 : e_Sn 191 56 (e_un n_191_56) := u_ldAT f_l0_eq (s_aload (i := .aload_n 0) (len := 1) hq_191 (by decide +kernel) rfl (.inr ⟨0, rfl, rfl, rfl⟩) : e_Sn 191 56 (o_load e_okR 0 57)) t_191_57
noncomputable def n_191_53 : e_Y := u_old (o_putf (e_f1 12 1) e_okR 56) n_191_56
theorem t_191_53 : e_Sn 191 53 (e_un n_191_53) := u_oldT (s_putf (ty0 := ey_12) (ok := e_okR) (C := er_12) (T := et_12) (N := 5) (ref := "PlateroomprinterModel") (index := 10) (ci := 12) (k := 1) hq_191 ho_191 ⟨rfl, by decide, ei_12, (List.mem_of_getElem? (i := 1959) (by decide +kernel)), .inl rfl⟩ eo_12 en_12 e_oksR (.inl rfl) (by decide +kernel) rfl : e_Sn 191 53 (o_putf (e_f1 12 1) e_okR 56)) t_191_56 (e_cg_putf (e_f1 12 1) e_okR)
noncomputable def n_191_52 : e_Y := u_ld f_okA f_l1 n_191_53
theorem t_191_52 : e_Sn 191 52 (e_un n_191_52) := u_ldAT f_l1_eq (s_aload (i := .aload_n 1) (len := 1) hq_191 (by decide +kernel) rfl (.inr ⟨1, rfl, rfl, rfl⟩) : e_Sn 191 52 (o_load e_okR 1 53)) t_191_53
noncomputable def n_191_51 : e_Y := u_ld f_okA f_l0 n_191_52
theorem t_191_51 : e_Sn 191 51 (e_un n_191_51) := u_ldAT f_l0_eq (s_aload (i := .aload_n 0) (len := 1) hq_191 (by decide +kernel) rfl (.inr ⟨0, rfl, rfl, rfl⟩) : e_Sn 191 51 (o_load e_okR 0 52)) t_191_52
noncomputable def n_191_30 : e_Y := n_191_51
theorem t_191_30 : e_Sn 191 30 (e_un n_191_30) := u_gotoT (s_goto (off := (21)) hq_191 (by decide +kernel) rfl : e_Sn 191 30 (o_goto 51)) t_191_51
noncomputable def n_191_27 : e_Y := u_callV 16 210 2 21 1 n_210_0 n_191_30
theorem t_191_27 : e_Sn 191 27 (e_un n_191_27) := u_callVT rfl (s_callV (ci := 16) (C := er_16) (T := et_16) (N := 5) (index := 166) hq_191 ho_191 hy_210 hp_210 hc_210 hi_210 hd_210 (List.mem_of_getElem? (i := 2168) (by decide +kernel)) hs_210 (List.mem_of_getElem? (i := 2170) (by decide +kernel)) rfl (by decide +kernel) rfl : e_Sn 191 27 (o_callV (e_s1 16 210 2) 1 30)) t_210_0 t_191_30
noncomputable def n_191_26 : e_Y := u_ld f_okA f_l2 n_191_27
theorem t_191_26 : e_Sn 191 26 (e_un n_191_26) := u_ldAT f_l2_eq (s_aload (i := .aload_n 2) (len := 1) hq_191 (by decide +kernel) rfl (.inr ⟨2, rfl, rfl, rfl⟩) : e_Sn 191 26 (o_load e_okR 2 27)) t_191_27
noncomputable def n_191_25 : e_Y := u_st f_okA f_s2 n_191_26
theorem t_191_25 : e_Sn 191 25 (e_un n_191_25) := u_stAT (fun _ _ _ => f_s2_eq) (s_astore (i := .astore_n 2) (len := 1) hq_191 (by decide +kernel) rfl (.inr ⟨2, rfl, rfl, rfl⟩) : e_Sn 191 25 (o_store e_okR 2 26)) t_191_26
noncomputable def n_191_22 : e_Y := u_tab (o_callI 209 3 3 25)
theorem t_191_22 : e_Sn 191 22 (e_un n_191_22) := u_tabT (s_callI (index := 163) hq_191 ho_191 hy_209 hp_209 hc_209 hi_209 hd_209 (List.mem_of_getElem? (i := 2110) (by decide +kernel)) rfl rfl hs_209 (by decide +kernel) rfl : e_Sn 191 22 (o_callI 209 3 3 25))
noncomputable def n_191_19 : e_Y := u_getf 12 2 (u_old (o_getf (e_f1 12 2) 22) n_191_22) n_191_22
theorem t_191_19 : e_Sn 191 19 (e_un n_191_19) := u_getfT (s_getf (C := er_12) (T := et_12) (N := 5) (ref := "PlateroomprinterModel") (index := 19) (ci := 12) (k := 2) hq_191 ho_191 ⟨rfl, by decide, ei_12, (List.mem_of_getElem? (i := 1960) (by decide +kernel)), .inl rfl⟩ (by decide +kernel) rfl : e_Sn 191 19 (o_getf (e_f1 12 2) 22)) t_191_22
noncomputable def n_191_18 : e_Y := u_ld f_okA f_l0 n_191_19
theorem t_191_18 : e_Sn 191 18 (e_un n_191_18) := u_ldAT f_l0_eq (s_aload (i := .aload_n 0) (len := 1) hq_191 (by decide +kernel) rfl (.inr ⟨0, rfl, rfl, rfl⟩) : e_Sn 191 18 (o_load e_okR 0 19)) t_191_19
noncomputable def n_191_17 : e_Y := u_ld f_okA f_l1 n_191_18
theorem t_191_17 : e_Sn 191 17 (e_un n_191_17) := u_ldAT f_l1_eq (s_aload (i := .aload_n 1) (len := 1) hq_191 (by decide +kernel) rfl (.inr ⟨1, rfl, rfl, rfl⟩) : e_Sn 191 17 (o_load e_okR 1 18)) t_191_18
noncomputable def n_191_16 : e_Y := u_old (o_dup 17) n_191_17
theorem t_191_16 : e_Sn 191 16 (e_un n_191_16) := u_oldT (s_dup hq_191 (by decide +kernel) rfl : e_Sn 191 16 (o_dup 17)) t_191_17 e_cg_dup
noncomputable def n_191_13 : e_Y := u_tab (o_new 16 5 ef_16 16)
theorem t_191_13 : e_Sn 191 13 (e_un n_191_13) := u_tabT (s_new (index := 161) (ci := 16) (N := 5) (C := er_16) (T := et_16) (ty0 := ey_16) (fv := eg_16) hq_191 ho_191 rfl ei_16 eo_16 (List.mem_of_getElem? (i := 2108) (by decide +kernel)) (List.mem_of_getElem? (i := 2109) (by decide +kernel)) (List.mem_of_getElem? (i := 170) (by decide +kernel)) eh_16 rfl (e_newrel ek_16) (by decide +kernel) rfl : e_Sn 191 13 (o_new 16 5 ef_16 16))
noncomputable def n_191_12 : e_Y := u_st f_okA f_s1 n_191_13
theorem t_191_12 : e_Sn 191 12 (e_un n_191_12) := u_stAT (fun _ _ _ => f_s1_eq) (s_astore (i := .astore_n 1) (len := 1) hq_191 (by decide +kernel) rfl (.inr ⟨1, rfl, rfl, rfl⟩) : e_Sn 191 12 (o_store e_okR 1 13)) t_191_13
noncomputable def n_191_9 : e_Y := u_callV 13 205 3 22 1 n_205_0 n_191_12
theorem t_191_9 : e_Sn 191 9 (e_un n_191_9) := u_callVT rfl (s_callV (ci := 13) (C := er_13) (T := et_13) (N := 13) (index := 158) hq_191 ho_191 hy_205 hp_205 hc_205 hi_205 hd_205 (List.mem_of_getElem? (i := 2042) (by decide +kernel)) hs_205 (List.mem_of_getElem? (i := 2044) (by decide +kernel)) rfl (by decide +kernel) rfl : e_Sn 191 9 (o_callV (e_s1 13 205 3) 1 12)) t_205_0 t_191_12
noncomputable def n_191_6 : e_Y := u_getf 12 1 (u_old (o_getf (e_f1 12 1) 9) n_191_9) n_191_9
theorem t_191_6 : e_Sn 191 6 (e_un n_191_6) := u_getfT (s_getf (C := er_12) (T := et_12) (N := 5) (ref := "PlateroomprinterModel") (index := 10) (ci := 12) (k := 1) hq_191 ho_191 ⟨rfl, by decide, ei_12, (List.mem_of_getElem? (i := 1959) (by decide +kernel)), .inl rfl⟩ (by decide +kernel) rfl : e_Sn 191 6 (o_getf (e_f1 12 1) 9)) t_191_9
noncomputable def n_191_5 : e_Y := u_ld f_okA f_l0 n_191_6
theorem t_191_5 : e_Sn 191 5 (e_un n_191_5) := u_ldAT f_l0_eq (s_aload (i := .aload_n 0) (len := 1) hq_191 (by decide +kernel) rfl (.inr ⟨0, rfl, rfl, rfl⟩) : e_Sn 191 5 (o_load e_okR 0 6)) t_191_6
noncomputable def n_191_2 : e_Y := u_old (o_putf (e_f1 12 0) e_okI 5) n_191_5
theorem t_191_2 : e_Sn 191 2 (e_un n_191_2) := u_oldT (s_putf (ty0 := ey_12) (ok := e_okI) (C := er_12) (T := et_12) (N := 5) (ref := "PlateroomprinterModel") (index := 124) (ci := 12) (k := 0) hq_191 ho_191 ⟨rfl, by decide, ei_12, (List.mem_of_getElem? (i := 1958) (by decide +kernel)), .inl rfl⟩ eo_12 en_12 e_oksI (.inl rfl) (by decide +kernel) rfl : e_Sn 191 2 (o_putf (e_f1 12 0) e_okI 5)) t_191_5 (e_cg_putf (e_f1 12 0) e_okI)
noncomputable def n_191_1 : e_Y := u_push (.inl 2147483648) n_191_2
theorem t_191_1 : e_Sn 191 1 (e_un n_191_1) := u_pushT (s_iconst (n := (0)) hq_191 (by decide +kernel) rfl ⟨by decide +kernel, by decide +kernel⟩ : e_Sn 191 1 (o_push (.inl 2147483648) 2)) t_191_2
noncomputable def n_191_0 : e_Y := u_ld f_okA f_l0 n_191_1
theorem t_191_0 : e_Sn 191 0 (e_un n_191_0) := u_ldAT f_l0_eq (s_aload (i := .aload_n 0) (len := 1) hq_191 (by decide +kernel) rfl (.inr ⟨0, rfl, rfl, rfl⟩) : e_Sn 191 0 (o_load e_okR 0 1)) t_191_1
noncomputable def e_tb_191 : e_X := (e_br 25 (e_br 16 (e_lf 0 (e_un n_191_0)) (e_lf 16 (e_un n_191_16))) (e_br 60 (e_lf 25 (e_un n_191_25)) (e_br 64 (e_lf 60 (e_un n_191_60)) (e_lf 64 (e_un n_191_64)))))
theorem e_tk_191 : e_Tb 191 e_tb_191 := (e_brT (e_brT (e_lfT t_191_0) (e_lfT t_191_16)) (e_brT (e_lfT t_191_25) (e_brT (e_lfT t_191_60) (e_lfT t_191_64))))
theorem hq_196 : (e_ml[196]?).map (·.2.1) = some prog_14_method_45_code := rfl
theorem ho_196 : (e_ml[196]?).map (·.1.cls) = some "PlateroomprinterModel" := rfl
theorem hr_196 : (e_ml[196]?).map (·.2.2.2) = some (some .int) := rfl
noncomputable def n_196_34 : e_Y := u_retI
theorem t_196_34 : e_Sn 196 34 (e_un n_196_34) := u_retIT (s_iret hq_196 hr_196 (by decide +kernel) : e_Sn 196 34 (o_ret e_okI))
noncomputable def n_196_31 : e_Y := u_callV 12 197 3 22 2 n_197_0 n_196_34
theorem t_196_31 : e_Sn 196 31 (e_un n_196_31) := u_callVT rfl (s_callV (ci := 12) (C := er_12) (T := et_12) (N := 5) (index := 249) hq_196 ho_196 hy_197 hp_197 hc_197 hi_197 hd_197 (List.mem_of_getElem? (i := 2954) (by decide +kernel)) hs_197 (List.mem_of_getElem? (i := 124) (by decide +kernel)) rfl (by decide +kernel) rfl : e_Sn 196 31 (o_callV (e_s1 12 197 3) 2 34)) t_197_0 t_196_34
noncomputable def n_196_30 : e_Y := u_ld f_okI f_l1 n_196_31
theorem t_196_30 : e_Sn 196 30 (e_un n_196_30) := u_ldIT f_l1_eq (s_iload (i := .iload_n 1) (len := 1) hq_196 (by decide +kernel) rfl (.inr ⟨1, rfl, rfl, rfl⟩) : e_Sn 196 30 (o_load e_okI 1 31)) t_196_31
noncomputable def n_196_29 : e_Y := u_ld f_okA f_l0 n_196_30
theorem t_196_29 : e_Sn 196 29 (e_un n_196_29) := u_ldAT f_l0_eq (s_aload (i := .aload_n 0) (len := 1) hq_196 (by decide +kernel) rfl (.inr ⟨0, rfl, rfl, rfl⟩) : e_Sn 196 29 (o_load e_okR 0 30)) t_196_30
noncomputable def n_196_26 : e_Y := n_196_34
theorem t_196_26 : e_Sn 196 26 (e_un n_196_26) := u_gotoT (s_goto (off := (8)) hq_196 (by decide +kernel) rfl : e_Sn 196 26 (o_goto 34)) t_196_34
noncomputable def n_196_25 : e_Y := u_push (.inl 2147483648) n_196_26
theorem t_196_25 : e_Sn 196 25 (e_un n_196_25) := u_pushT (s_iconst (n := (0)) hq_196 (by decide +kernel) rfl ⟨by decide +kernel, by decide +kernel⟩ : e_Sn 196 25 (o_push (.inl 2147483648) 26)) t_196_26
noncomputable def n_196_22 : e_Y := u_if y_ne0 (u_old2 (o_ifeq 29 25) 29 n_196_29 n_196_25) n_196_29 n_196_25
theorem t_196_22 : e_Sn 196 22 (e_un n_196_22) := u_ifeqT rfl (s_ifeq (off := (7)) hq_196 (by decide +kernel) rfl rfl : e_Sn 196 22 (o_ifeq 29 25)) t_196_29 t_196_25
noncomputable def n_196_19 : e_Y := u_callV 12 195 3 22 3 n_195_0 n_196_22
theorem t_196_19 : e_Sn 196 19 (e_un n_196_19) := u_callVT rfl (s_callV (ci := 12) (C := er_12) (T := et_12) (N := 5) (index := 148) hq_196 ho_196 hy_195 hp_195 hc_195 hi_195 hd_195 (List.mem_of_getElem? (i := 1992) (by decide +kernel)) hs_195 (List.mem_of_getElem? (i := 73) (by decide +kernel)) rfl (by decide +kernel) rfl : e_Sn 196 19 (o_callV (e_s1 12 195 3) 3 22)) t_195_0 t_196_22
noncomputable def n_196_18 : e_Y := u_push (.inl 2147483649) n_196_19
theorem t_196_18 : e_Sn 196 18 (e_un n_196_18) := u_pushT (s_iconst (n := (1)) hq_196 (by decide +kernel) rfl ⟨by decide +kernel, by decide +kernel⟩ : e_Sn 196 18 (o_push (.inl 2147483649) 19)) t_196_19
noncomputable def n_196_17 : e_Y := u_push (.inl 2147483648) n_196_18
theorem t_196_17 : e_Sn 196 17 (e_un n_196_17) := u_pushT (s_iconst (n := (0)) hq_196 (by decide +kernel) rfl ⟨by decide +kernel, by decide +kernel⟩ : e_Sn 196 17 (o_push (.inl 2147483648) 18)) t_196_18
noncomputable def n_196_14 : e_Y := n_196_18
theorem t_196_14 : e_Sn 196 14 (e_un n_196_14) := u_gotoT (s_goto (off := (4)) hq_196 (by decide +kernel) rfl : e_Sn 196 14 (o_goto 18)) t_196_18
noncomputable def n_196_13 : e_Y := u_push (.inl 2147483649) n_196_14
theorem t_196_13 : e_Sn 196 13 (e_un n_196_13) := u_pushT (s_iconst (n := (1)) hq_196 (by decide +kernel) rfl ⟨by decide +kernel, by decide +kernel⟩ : e_Sn 196 13 (o_push (.inl 2147483649) 14)) t_196_14
noncomputable def n_196_10 : e_Y := u_if y_ne0 (u_old2 (o_ifeq 13 17) 13 n_196_13 n_196_17) n_196_13 n_196_17
theorem t_196_10 : e_Sn 196 10 (e_un n_196_10) := u_ifeqT rfl (s_ifne (off := (7)) hq_196 (by decide +kernel) rfl rfl : e_Sn 196 10 (o_ifeq 13 17)) t_196_13 t_196_17
noncomputable def n_196_7 : e_Y := u_callS 162 6 25 3 n_162_0 n_196_10
theorem t_196_7 : e_Sn 196 7 (e_un n_196_7) := u_callST rfl (s_callS (index := 136) hq_196 ho_196 hy_162 hp_162 hc_162 hi_162 hd_162 (List.mem_of_getElem? (i := 1987) (by decide +kernel)) hs_162 (by decide +kernel) rfl : e_Sn 196 7 (o_callS 162 6 3 10)) t_162_0 t_196_10
noncomputable def n_196_4 : e_Y := u_push (e_L 9223372036854775822) n_196_7
theorem t_196_4 : e_Sn 196 4 (e_un n_196_4) := u_pushT (s_ldc2 (index := 247) (v := (14)) hq_196 ho_196 (List.mem_of_getElem? (i := 2953) (by decide +kernel)) (by decide +kernel) rfl ⟨by decide +kernel, by decide +kernel⟩ : e_Sn 196 4 (o_push (e_L 9223372036854775822) 7)) t_196_7
noncomputable def n_196_3 : e_Y := u_push (e_L 9223372036854775808) n_196_4
theorem t_196_3 : e_Sn 196 3 (e_un n_196_3) := u_pushT (s_lconst (n := 0) hq_196 (by decide +kernel) rfl ⟨by decide +kernel, by decide +kernel⟩ : e_Sn 196 3 (o_push (e_L 9223372036854775808) 4)) t_196_4
noncomputable def n_196_2 : e_Y := u_old (o_i2l 3) n_196_3
theorem t_196_2 : e_Sn 196 2 (e_un n_196_2) := u_oldT (s_i2l hq_196 (by decide +kernel) rfl : e_Sn 196 2 (o_i2l 3)) t_196_3 e_congr_i2l
noncomputable def n_196_1 : e_Y := u_ld f_okI f_l1 n_196_2
theorem t_196_1 : e_Sn 196 1 (e_un n_196_1) := u_ldIT f_l1_eq (s_iload (i := .iload_n 1) (len := 1) hq_196 (by decide +kernel) rfl (.inr ⟨1, rfl, rfl, rfl⟩) : e_Sn 196 1 (o_load e_okI 1 2)) t_196_2
noncomputable def n_196_0 : e_Y := u_ld f_okA f_l0 n_196_1
theorem t_196_0 : e_Sn 196 0 (e_un n_196_0) := u_ldAT f_l0_eq (s_aload (i := .aload_n 0) (len := 1) hq_196 (by decide +kernel) rfl (.inr ⟨0, rfl, rfl, rfl⟩) : e_Sn 196 0 (o_load e_okR 0 1)) t_196_1
noncomputable def e_tb_196 : e_X := (e_lf 0 (e_un n_196_0))
theorem e_tk_196 : e_Tb 196 e_tb_196 := (e_lfT t_196_0)
theorem hq_199 : (e_ml[199]?).map (·.2.1) = some prog_14_method_22_code := rfl
theorem ho_199 : (e_ml[199]?).map (·.1.cls) = some "PlateroomprinterModel" := rfl
theorem hr_199 : (e_ml[199]?).map (·.2.2.2) = some (some .int) := rfl
noncomputable def n_199_4 : e_Y := u_retI
theorem t_199_4 : e_Sn 199 4 (e_un n_199_4) := u_retIT (s_iret hq_199 hr_199 (by decide +kernel) : e_Sn 199 4 (o_ret e_okI))
noncomputable def n_199_1 : e_Y := u_getf 12 0 (u_old (o_getf (e_f1 12 0) 4) n_199_4) n_199_4
theorem t_199_1 : e_Sn 199 1 (e_un n_199_1) := u_getfT (s_getf (C := er_12) (T := et_12) (N := 5) (ref := "PlateroomprinterModel") (index := 124) (ci := 12) (k := 0) hq_199 ho_199 ⟨rfl, by decide, ei_12, (List.mem_of_getElem? (i := 1958) (by decide +kernel)), .inl rfl⟩ (by decide +kernel) rfl : e_Sn 199 1 (o_getf (e_f1 12 0) 4)) t_199_4
noncomputable def n_199_0 : e_Y := u_ld f_okA f_l0 n_199_1
theorem t_199_0 : e_Sn 199 0 (e_un n_199_0) := u_ldAT f_l0_eq (s_aload (i := .aload_n 0) (len := 1) hq_199 (by decide +kernel) rfl (.inr ⟨0, rfl, rfl, rfl⟩) : e_Sn 199 0 (o_load e_okR 0 1)) t_199_1
noncomputable def e_tb_199 : e_X := (e_lf 0 (e_un n_199_0))
theorem e_tk_199 : e_Tb 199 e_tb_199 := (e_lfT t_199_0)
theorem hq_201 : (e_ml[201]?).map (·.2.1) = some prog_14_method_35_code := rfl
theorem ho_201 : (e_ml[201]?).map (·.1.cls) = some "PlateroomprinterModel" := rfl
theorem hr_201 : (e_ml[201]?).map (·.2.2.2) = some (some .int) := rfl
noncomputable def n_201_72 : e_Y := u_retI
theorem t_201_72 : e_Sn 201 72 (e_un n_201_72) := u_retIT (s_iret hq_201 hr_201 (by decide +kernel) : e_Sn 201 72 (o_ret e_okI))
noncomputable def n_201_56 : e_Y := n_201_72
theorem t_201_56 : e_Sn 201 56 (e_un n_201_56) := u_gotoT (s_goto (off := (16)) hq_201 (by decide +kernel) rfl : e_Sn 201 56 (o_goto 72)) t_201_72
noncomputable def n_201_55 : e_Y := u_push (.inl 2147483648) n_201_56
theorem t_201_55 : e_Sn 201 55 (e_un n_201_55) := u_pushT (s_iconst (n := (0)) hq_201 (by decide +kernel) rfl ⟨by decide +kernel, by decide +kernel⟩ : e_Sn 201 55 (o_push (.inl 2147483648) 56)) t_201_56
noncomputable def n_201_29 : e_Y := u_if y_ne0 (u_old2 (o_ifeq 32 55) 32 (u_at 32) n_201_55) (u_at 32) n_201_55
theorem t_201_29 : e_Sn 201 29 (e_un n_201_29) := u_ifeqT rfl (s_ifne (off := (26)) hq_201 (by decide +kernel) rfl rfl : e_Sn 201 29 (o_ifeq 32 55)) u_atT t_201_55
noncomputable def n_201_26 : e_Y := u_callV 12 195 3 22 3 n_195_0 n_201_29
theorem t_201_26 : e_Sn 201 26 (e_un n_201_26) := u_callVT rfl (s_callV (ci := 12) (C := er_12) (T := et_12) (N := 5) (index := 148) hq_201 ho_201 hy_195 hp_195 hc_195 hi_195 hd_195 (List.mem_of_getElem? (i := 1992) (by decide +kernel)) hs_195 (List.mem_of_getElem? (i := 73) (by decide +kernel)) rfl (by decide +kernel) rfl : e_Sn 201 26 (o_callV (e_s1 12 195 3) 3 29)) t_195_0 t_201_29
noncomputable def n_201_25 : e_Y := u_push (.inl 2147483649) n_201_26
theorem t_201_25 : e_Sn 201 25 (e_un n_201_25) := u_pushT (s_iconst (n := (1)) hq_201 (by decide +kernel) rfl ⟨by decide +kernel, by decide +kernel⟩ : e_Sn 201 25 (o_push (.inl 2147483649) 26)) t_201_26
noncomputable def n_201_21 : e_Y := n_201_25
theorem t_201_21 : e_Sn 201 21 (e_un n_201_21) := u_gotoT (s_goto (off := (4)) hq_201 (by decide +kernel) rfl : e_Sn 201 21 (o_goto 25)) t_201_25
noncomputable def n_201_20 : e_Y := u_push (.inl 2147483649) n_201_21
theorem t_201_20 : e_Sn 201 20 (e_un n_201_20) := u_pushT (s_iconst (n := (1)) hq_201 (by decide +kernel) rfl ⟨by decide +kernel, by decide +kernel⟩ : e_Sn 201 20 (o_push (.inl 2147483649) 21)) t_201_21
noncomputable def n_201_17 : e_Y := u_if y_ne0 (u_old2 (o_ifeq 20 24) 20 n_201_20 (u_at 24)) n_201_20 (u_at 24)
theorem t_201_17 : e_Sn 201 17 (e_un n_201_17) := u_ifeqT rfl (s_ifne (off := (7)) hq_201 (by decide +kernel) rfl rfl : e_Sn 201 17 (o_ifeq 20 24)) t_201_20 u_atT
noncomputable def n_201_14 : e_Y := u_callS 162 6 25 3 n_162_0 n_201_17
theorem t_201_14 : e_Sn 201 14 (e_un n_201_14) := u_callST rfl (s_callS (index := 136) hq_201 ho_201 hy_162 hp_162 hc_162 hi_162 hd_162 (List.mem_of_getElem? (i := 1987) (by decide +kernel)) hs_162 (by decide +kernel) rfl : e_Sn 201 14 (o_callS 162 6 3 17)) t_162_0 t_201_17
noncomputable def n_201_13 : e_Y := u_old (o_i2l 14) n_201_14
theorem t_201_13 : e_Sn 201 13 (e_un n_201_13) := u_oldT (s_i2l hq_201 (by decide +kernel) rfl : e_Sn 201 13 (o_i2l 14)) t_201_14 e_congr_i2l
noncomputable def n_201_12 : e_Y := u_bin a_isub (u_old (o_isub 13) n_201_13) n_201_13
theorem t_201_12 : e_Sn 201 12 (e_un n_201_12) := u_isubT (s_isub hq_201 (by decide +kernel) rfl : e_Sn 201 12 (o_isub 13)) t_201_13
noncomputable def n_201_11 : e_Y := u_push (.inl 2147483649) n_201_12
theorem t_201_11 : e_Sn 201 11 (e_un n_201_11) := u_pushT (s_iconst (n := (1)) hq_201 (by decide +kernel) rfl ⟨by decide +kernel, by decide +kernel⟩ : e_Sn 201 11 (o_push (.inl 2147483649) 12)) t_201_12
noncomputable def n_201_8 : e_Y := u_callV 18 234 1 20 1 n_234_0 n_201_11
theorem t_201_8 : e_Sn 201 8 (e_un n_201_8) := u_callVT rfl (s_callV (ci := 18) (C := er_18) (T := et_18) (N := 3) (index := 74) hq_201 ho_201 hy_234 hp_234 hc_234 hi_234 hd_234 (List.mem_of_getElem? (i := 2000) (by decide +kernel)) hs_234 (List.mem_of_getElem? (i := 2002) (by decide +kernel)) rfl (by decide +kernel) rfl : e_Sn 201 8 (o_callV (e_s1 18 234 1) 1 11)) t_234_0 t_201_11
noncomputable def n_201_5 : e_Y := u_getf 12 2 (u_old (o_getf (e_f1 12 2) 8) n_201_8) n_201_8
theorem t_201_5 : e_Sn 201 5 (e_un n_201_5) := u_getfT (s_getf (C := er_12) (T := et_12) (N := 5) (ref := "PlateroomprinterModel") (index := 19) (ci := 12) (k := 2) hq_201 ho_201 ⟨rfl, by decide, ei_12, (List.mem_of_getElem? (i := 1960) (by decide +kernel)), .inl rfl⟩ (by decide +kernel) rfl : e_Sn 201 5 (o_getf (e_f1 12 2) 8)) t_201_8
noncomputable def n_201_4 : e_Y := u_ld f_okA f_l0 n_201_5
theorem t_201_4 : e_Sn 201 4 (e_un n_201_4) := u_ldAT f_l0_eq (s_aload (i := .aload_n 0) (len := 1) hq_201 (by decide +kernel) rfl (.inr ⟨0, rfl, rfl, rfl⟩) : e_Sn 201 4 (o_load e_okR 0 5)) t_201_5
noncomputable def n_201_3 : e_Y := u_push (e_L 9223372036854775808) n_201_4
theorem t_201_3 : e_Sn 201 3 (e_un n_201_3) := u_pushT (s_lconst (n := 0) hq_201 (by decide +kernel) rfl ⟨by decide +kernel, by decide +kernel⟩ : e_Sn 201 3 (o_push (e_L 9223372036854775808) 4)) t_201_4
noncomputable def n_201_2 : e_Y := u_old (o_i2l 3) n_201_3
theorem t_201_2 : e_Sn 201 2 (e_un n_201_2) := u_oldT (s_i2l hq_201 (by decide +kernel) rfl : e_Sn 201 2 (o_i2l 3)) t_201_3 e_congr_i2l
noncomputable def n_201_1 : e_Y := u_ld f_okI f_l1 n_201_2
theorem t_201_1 : e_Sn 201 1 (e_un n_201_1) := u_ldIT f_l1_eq (s_iload (i := .iload_n 1) (len := 1) hq_201 (by decide +kernel) rfl (.inr ⟨1, rfl, rfl, rfl⟩) : e_Sn 201 1 (o_load e_okI 1 2)) t_201_2
noncomputable def n_201_0 : e_Y := u_ld f_okA f_l0 n_201_1
theorem t_201_0 : e_Sn 201 0 (e_un n_201_0) := u_ldAT f_l0_eq (s_aload (i := .aload_n 0) (len := 1) hq_201 (by decide +kernel) rfl (.inr ⟨0, rfl, rfl, rfl⟩) : e_Sn 201 0 (o_load e_okR 0 1)) t_201_1
noncomputable def e_tb_201 : e_X := (e_lf 0 (e_un n_201_0))
theorem e_tk_201 : e_Tb 201 e_tb_201 := (e_lfT t_201_0)
theorem hq_202 : (e_ml[202]?).map (·.2.1) = some prog_14_method_34_code := rfl
theorem ho_202 : (e_ml[202]?).map (·.1.cls) = some "PlateroomprinterModel" := rfl
theorem hr_202 : (e_ml[202]?).map (·.2.2.2) = some (some .int) := rfl
noncomputable def n_202_12 : e_Y := u_retI
theorem t_202_12 : e_Sn 202 12 (e_un n_202_12) := u_retIT (s_iret hq_202 hr_202 (by decide +kernel) : e_Sn 202 12 (o_ret e_okI))
noncomputable def n_202_9 : e_Y := u_callV 18 234 1 20 1 n_234_0 n_202_12
theorem t_202_9 : e_Sn 202 9 (e_un n_202_9) := u_callVT rfl (s_callV (ci := 18) (C := er_18) (T := et_18) (N := 3) (index := 74) hq_202 ho_202 hy_234 hp_234 hc_234 hi_234 hd_234 (List.mem_of_getElem? (i := 2000) (by decide +kernel)) hs_234 (List.mem_of_getElem? (i := 2002) (by decide +kernel)) rfl (by decide +kernel) rfl : e_Sn 202 9 (o_callV (e_s1 18 234 1) 1 12)) t_234_0 t_202_12
noncomputable def n_202_6 : e_Y := u_getf 12 2 (u_old (o_getf (e_f1 12 2) 9) n_202_9) n_202_9
theorem t_202_6 : e_Sn 202 6 (e_un n_202_6) := u_getfT (s_getf (C := er_12) (T := et_12) (N := 5) (ref := "PlateroomprinterModel") (index := 19) (ci := 12) (k := 2) hq_202 ho_202 ⟨rfl, by decide, ei_12, (List.mem_of_getElem? (i := 1960) (by decide +kernel)), .inl rfl⟩ (by decide +kernel) rfl : e_Sn 202 6 (o_getf (e_f1 12 2) 9)) t_202_9
noncomputable def n_202_5 : e_Y := u_ld f_okA f_l0 n_202_6
theorem t_202_5 : e_Sn 202 5 (e_un n_202_5) := u_ldAT f_l0_eq (s_aload (i := .aload_n 0) (len := 1) hq_202 (by decide +kernel) rfl (.inr ⟨0, rfl, rfl, rfl⟩) : e_Sn 202 5 (o_load e_okR 0 6)) t_202_6
noncomputable def n_202_2 : e_Y := u_old (o_putf (e_f1 12 0) e_okI 5) n_202_5
theorem t_202_2 : e_Sn 202 2 (e_un n_202_2) := u_oldT (s_putf (ty0 := ey_12) (ok := e_okI) (C := er_12) (T := et_12) (N := 5) (ref := "PlateroomprinterModel") (index := 124) (ci := 12) (k := 0) hq_202 ho_202 ⟨rfl, by decide, ei_12, (List.mem_of_getElem? (i := 1958) (by decide +kernel)), .inl rfl⟩ eo_12 en_12 e_oksI (.inl rfl) (by decide +kernel) rfl : e_Sn 202 2 (o_putf (e_f1 12 0) e_okI 5)) t_202_5 (e_cg_putf (e_f1 12 0) e_okI)
noncomputable def n_202_1 : e_Y := u_push (.inl 2147483648) n_202_2
theorem t_202_1 : e_Sn 202 1 (e_un n_202_1) := u_pushT (s_iconst (n := (0)) hq_202 (by decide +kernel) rfl ⟨by decide +kernel, by decide +kernel⟩ : e_Sn 202 1 (o_push (.inl 2147483648) 2)) t_202_2
noncomputable def n_202_0 : e_Y := u_ld f_okA f_l0 n_202_1
theorem t_202_0 : e_Sn 202 0 (e_un n_202_0) := u_ldAT f_l0_eq (s_aload (i := .aload_n 0) (len := 1) hq_202 (by decide +kernel) rfl (.inr ⟨0, rfl, rfl, rfl⟩) : e_Sn 202 0 (o_load e_okR 0 1)) t_202_1
noncomputable def e_tb_202 : e_X := (e_lf 0 (e_un n_202_0))
theorem e_tk_202 : e_Tb 202 e_tb_202 := (e_lfT t_202_0)
theorem hq_203 : (e_ml[203]?).map (·.2.1) = some prog_14_method_29_code := rfl
theorem ho_203 : (e_ml[203]?).map (·.1.cls) = some "PlateroomprinterModel" := rfl
theorem hr_203 : (e_ml[203]?).map (·.2.2.2) = some (some .int) := rfl
noncomputable def n_203_25 : e_Y := u_retI
theorem t_203_25 : e_Sn 203 25 (e_un n_203_25) := u_retIT (s_iret hq_203 hr_203 (by decide +kernel) : e_Sn 203 25 (o_ret e_okI))
noncomputable def n_203_24 : e_Y := u_ld f_okI f_l1 n_203_25
theorem t_203_24 : e_Sn 203 24 (e_un n_203_24) := u_ldIT f_l1_eq (s_iload (i := .iload_n 1) (len := 1) hq_203 (by decide +kernel) rfl (.inr ⟨1, rfl, rfl, rfl⟩) : e_Sn 203 24 (o_load e_okI 1 25)) t_203_25
noncomputable def n_203_21 : e_Y := u_old (o_putf (e_f1 12 2) e_okR 24) n_203_24
theorem t_203_21 : e_Sn 203 21 (e_un n_203_21) := u_oldT (s_putf (ty0 := ey_12) (ok := e_okR) (C := er_12) (T := et_12) (N := 5) (ref := "PlateroomprinterModel") (index := 19) (ci := 12) (k := 2) hq_203 ho_203 ⟨rfl, by decide, ei_12, (List.mem_of_getElem? (i := 1960) (by decide +kernel)), .inl rfl⟩ eo_12 en_12 e_oksR (.inl rfl) (by decide +kernel) rfl : e_Sn 203 21 (o_putf (e_f1 12 2) e_okR 24)) t_203_24 (e_cg_putf (e_f1 12 2) e_okR)
noncomputable def n_203_18 : e_Y := u_tab (o_callI 222 1 1 21)
theorem t_203_18 : e_Sn 203 18 (e_un n_203_18) := u_tabT (s_callI (index := 18) hq_203 ho_203 hy_222 hp_222 hc_222 hi_222 hd_222 (List.mem_of_getElem? (i := 1957) (by decide +kernel)) rfl rfl hs_222 (by decide +kernel) rfl : e_Sn 203 18 (o_callI 222 1 1 21))
noncomputable def n_203_17 : e_Y := u_old (o_dup 18) n_203_18
theorem t_203_17 : e_Sn 203 17 (e_un n_203_17) := u_oldT (s_dup hq_203 (by decide +kernel) rfl : e_Sn 203 17 (o_dup 18)) t_203_18 e_cg_dup
noncomputable def n_203_14 : e_Y := u_tab (o_new 18 3 ef_18 17)
theorem t_203_14 : e_Sn 203 14 (e_un n_203_14) := u_tabT (s_new (index := 16) (ci := 18) (N := 3) (C := er_18) (T := et_18) (ty0 := ey_18) (fv := eg_18) hq_203 ho_203 rfl ei_18 eo_18 (List.mem_of_getElem? (i := 1956) (by decide +kernel)) (List.mem_of_getElem? (i := 1751) (by decide +kernel)) (List.mem_of_getElem? (i := 155) (by decide +kernel)) eh_18 rfl (e_newrel ek_18) (by decide +kernel) rfl : e_Sn 203 14 (o_new 18 3 ef_18 17))
noncomputable def n_203_13 : e_Y := u_ld f_okA f_l0 n_203_14
theorem t_203_13 : e_Sn 203 13 (e_un n_203_13) := u_ldAT f_l0_eq (s_aload (i := .aload_n 0) (len := 1) hq_203 (by decide +kernel) rfl (.inr ⟨0, rfl, rfl, rfl⟩) : e_Sn 203 13 (o_load e_okR 0 14)) t_203_14
noncomputable def n_203_12 : e_Y := u_st f_okI f_s1 n_203_13
theorem t_203_12 : e_Sn 203 12 (e_un n_203_12) := u_stIT (fun _ _ _ => f_s1_eq) (s_istore (i := .istore_n 1) (len := 1) hq_203 (by decide +kernel) rfl (.inr ⟨1, rfl, rfl, rfl⟩) : e_Sn 203 12 (o_store e_okI 1 13)) t_203_13
noncomputable def n_203_9 : e_Y := u_callV 18 234 1 20 1 n_234_0 n_203_12
theorem t_203_9 : e_Sn 203 9 (e_un n_203_9) := u_callVT rfl (s_callV (ci := 18) (C := er_18) (T := et_18) (N := 3) (index := 74) hq_203 ho_203 hy_234 hp_234 hc_234 hi_234 hd_234 (List.mem_of_getElem? (i := 2000) (by decide +kernel)) hs_234 (List.mem_of_getElem? (i := 2002) (by decide +kernel)) rfl (by decide +kernel) rfl : e_Sn 203 9 (o_callV (e_s1 18 234 1) 1 12)) t_234_0 t_203_12
noncomputable def n_203_6 : e_Y := u_getf 12 2 (u_old (o_getf (e_f1 12 2) 9) n_203_9) n_203_9
theorem t_203_6 : e_Sn 203 6 (e_un n_203_6) := u_getfT (s_getf (C := er_12) (T := et_12) (N := 5) (ref := "PlateroomprinterModel") (index := 19) (ci := 12) (k := 2) hq_203 ho_203 ⟨rfl, by decide, ei_12, (List.mem_of_getElem? (i := 1960) (by decide +kernel)), .inl rfl⟩ (by decide +kernel) rfl : e_Sn 203 6 (o_getf (e_f1 12 2) 9)) t_203_9
noncomputable def n_203_5 : e_Y := u_ld f_okA f_l0 n_203_6
theorem t_203_5 : e_Sn 203 5 (e_un n_203_5) := u_ldAT f_l0_eq (s_aload (i := .aload_n 0) (len := 1) hq_203 (by decide +kernel) rfl (.inr ⟨0, rfl, rfl, rfl⟩) : e_Sn 203 5 (o_load e_okR 0 6)) t_203_6
noncomputable def n_203_2 : e_Y := u_old (o_putf (e_f1 12 0) e_okI 5) n_203_5
theorem t_203_2 : e_Sn 203 2 (e_un n_203_2) := u_oldT (s_putf (ty0 := ey_12) (ok := e_okI) (C := er_12) (T := et_12) (N := 5) (ref := "PlateroomprinterModel") (index := 124) (ci := 12) (k := 0) hq_203 ho_203 ⟨rfl, by decide, ei_12, (List.mem_of_getElem? (i := 1958) (by decide +kernel)), .inl rfl⟩ eo_12 en_12 e_oksI (.inl rfl) (by decide +kernel) rfl : e_Sn 203 2 (o_putf (e_f1 12 0) e_okI 5)) t_203_5 (e_cg_putf (e_f1 12 0) e_okI)
noncomputable def n_203_1 : e_Y := u_push (.inl 2147483648) n_203_2
theorem t_203_1 : e_Sn 203 1 (e_un n_203_1) := u_pushT (s_iconst (n := (0)) hq_203 (by decide +kernel) rfl ⟨by decide +kernel, by decide +kernel⟩ : e_Sn 203 1 (o_push (.inl 2147483648) 2)) t_203_2
noncomputable def n_203_0 : e_Y := u_ld f_okA f_l0 n_203_1
theorem t_203_0 : e_Sn 203 0 (e_un n_203_0) := u_ldAT f_l0_eq (s_aload (i := .aload_n 0) (len := 1) hq_203 (by decide +kernel) rfl (.inr ⟨0, rfl, rfl, rfl⟩) : e_Sn 203 0 (o_load e_okR 0 1)) t_203_1
noncomputable def e_tb_203 : e_X := (e_br 17 (e_lf 0 (e_un n_203_0)) (e_br 21 (e_lf 17 (e_un n_203_17)) (e_lf 21 (e_un n_203_21))))
theorem e_tk_203 : e_Tb 203 e_tb_203 := (e_brT (e_lfT t_203_0) (e_brT (e_lfT t_203_17) (e_lfT t_203_21)))
end SN
