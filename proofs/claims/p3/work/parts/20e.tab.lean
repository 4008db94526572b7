/-! TABLES, by program -/
section SN
theorem hq_89 : (e_ml[89]?).map (·.2.1) = some prog_20_method_12_code := rfl
theorem ho_89 : (e_ml[89]?).map (·.1.cls) = some "PlateroomprinterModel$Run" := rfl
theorem hr_89 : (e_ml[89]?).map (·.2.2.2) = some (some (.array .long)) := rfl
noncomputable def n_89_31 : e_Y := u_retA
theorem t_89_31 : e_Sn 89 31 (e_un n_89_31) := u_retAT (s_aret (.inr ⟨_, rfl⟩) hq_89 hr_89 (by decide +kernel) : e_Sn 89 31 (o_ret e_okR))
noncomputable def n_89_30 : e_Y := u_ld f_okA f_l2 n_89_31
theorem t_89_30 : e_Sn 89 30 (e_un n_89_30) := u_ldAT f_l2_eq (s_aload (i := .aload_n 2) (len := 1) hq_89 (by decide +kernel) rfl (.inr ⟨2, rfl, rfl, rfl⟩) : e_Sn 89 30 (o_load e_okR 2 31)) t_89_31
noncomputable def n_89_27 : e_Y := (u_at 8)
theorem t_89_27 : e_Sn 89 27 (e_un n_89_27) := u_gotoT (s_goto (off := (-19)) hq_89 (by decide +kernel) rfl : e_Sn 89 27 (o_goto 8)) u_atT
noncomputable def n_89_24 : e_Y := u_inc f_l3 f_s3 4294967295 n_89_27
theorem t_89_24 : e_Sn 89 24 (e_un n_89_24) := u_incT f_l3_eq (fun _ _ _ => f_s3_eq) (s_iinc (zz := (-1)) hq_89 (by decide +kernel) rfl (by decide +kernel) ⟨by decide, by decide⟩ : e_Sn 89 24 (o_iinc 3 4294967295 27)) t_89_27
noncomputable def n_89_23 : e_Y := u_old (o_ast 2 e_okL 24) n_89_24
theorem t_89_23 : e_Sn 89 23 (e_un n_89_23) := u_oldT (s_last hq_89 (by decide +kernel) rfl : e_Sn 89 23 (o_ast 2 e_okL 24)) t_89_24 (e_cg_ast 2 e_okL)
noncomputable def n_89_22 : e_Y := u_old (o_i2l 23) n_89_23
theorem t_89_22 : e_Sn 89 22 (e_un n_89_22) := u_oldT (s_i2l hq_89 (by decide +kernel) rfl : e_Sn 89 22 (o_i2l 23)) t_89_23 e_congr_i2l
noncomputable def n_89_19 : e_Y := u_getf 13 1 (u_old (o_getf (e_f1 13 1) 22) n_89_22) n_89_22
theorem t_89_19 : e_Sn 89 19 (e_un n_89_19) := u_getfT (s_getf (C := er_13) (T := et_13) (N := 3) (ref := "PlateroomprinterModel$Item") (index := 153) (ci := 13) (k := 1) hq_89 ho_89 ⟨rfl, by decide, ei_13, (List.mem_of_getElem? (i := 2239) (by decide +kernel)), .inl rfl⟩ (by decide +kernel) rfl : e_Sn 89 19 (o_getf (e_f1 13 1) 22)) t_89_22
noncomputable def n_89_16 : e_Y := u_callV 16 97 3 22 2 n_97_0 n_89_19
theorem t_89_16 : e_Sn 89 16 (e_un n_89_16) := u_callVT rfl (s_callV (ci := 16) (C := er_16) (T := et_16) (N := 5) (index := 149) hq_89 ho_89 hy_97 hp_97 hc_97 hi_97 hd_97 (List.mem_of_getElem? (i := 2271) (by decide +kernel)) hs_97 (List.mem_of_getElem? (i := 86) (by decide +kernel)) rfl (by decide +kernel) rfl : e_Sn 89 16 (o_callV (e_s1 16 97 3) 2 19)) t_97_0 t_89_19
noncomputable def n_89_15 : e_Y := u_push (.inl 2147483648) n_89_16
theorem t_89_15 : e_Sn 89 15 (e_un n_89_15) := u_pushT (s_iconst (n := (0)) hq_89 (by decide +kernel) rfl ⟨by decide +kernel, by decide +kernel⟩ : e_Sn 89 15 (o_push (.inl 2147483648) 16)) t_89_16
noncomputable def n_89_14 : e_Y := u_ld f_okA f_l0 n_89_15
theorem t_89_14 : e_Sn 89 14 (e_un n_89_14) := u_ldAT f_l0_eq (s_aload (i := .aload_n 0) (len := 1) hq_89 (by decide +kernel) rfl (.inr ⟨0, rfl, rfl, rfl⟩) : e_Sn 89 14 (o_load e_okR 0 15)) t_89_15
noncomputable def n_89_13 : e_Y := u_ld f_okI f_l3 n_89_14
theorem t_89_13 : e_Sn 89 13 (e_un n_89_13) := u_ldIT f_l3_eq (s_iload (i := .iload_n 3) (len := 1) hq_89 (by decide +kernel) rfl (.inr ⟨3, rfl, rfl, rfl⟩) : e_Sn 89 13 (o_load e_okI 3 14)) t_89_14
noncomputable def n_89_12 : e_Y := u_ld f_okA f_l2 n_89_13
theorem t_89_12 : e_Sn 89 12 (e_un n_89_12) := u_ldAT f_l2_eq (s_aload (i := .aload_n 2) (len := 1) hq_89 (by decide +kernel) rfl (.inr ⟨2, rfl, rfl, rfl⟩) : e_Sn 89 12 (o_load e_okR 2 13)) t_89_13
noncomputable def n_89_9 : e_Y := u_if y_ge0 (u_old2 (o_iflt 30 12) 30 n_89_30 n_89_12) n_89_30 n_89_12
theorem t_89_9 : e_Sn 89 9 (e_un n_89_9) := u_ifltT rfl (s_iflt (off := (21)) hq_89 (by decide +kernel) rfl rfl : e_Sn 89 9 (o_iflt 30 12)) t_89_30 t_89_12
noncomputable def n_89_8 : e_Y := u_ld f_okI f_l3 n_89_9
theorem t_89_8 : e_Sn 89 8 (e_un n_89_8) := u_ldIT f_l3_eq (s_iload (i := .iload_n 3) (len := 1) hq_89 (by decide +kernel) rfl (.inr ⟨3, rfl, rfl, rfl⟩) : e_Sn 89 8 (o_load e_okI 3 9)) t_89_9
noncomputable def n_89_7 : e_Y := u_st f_okI f_s3 n_89_8
theorem t_89_7 : e_Sn 89 7 (e_un n_89_7) := u_stIT (fun _ _ _ => f_s3_eq) (s_istore (i := .istore_n 3) (len := 1) hq_89 (by decide +kernel) rfl (.inr ⟨3, rfl, rfl, rfl⟩) : e_Sn 89 7 (o_store e_okI 3 8)) t_89_8
noncomputable def n_89_6 : e_Y := u_bin a_isub (u_old (o_isub 7) n_89_7) n_89_7
theorem t_89_6 : e_Sn 89 6 (e_un n_89_6) := u_isubT (s_isub hq_89 (by decide +kernel) rfl : e_Sn 89 6 (o_isub 7)) t_89_7
noncomputable def n_89_5 : e_Y := u_push (.inl 2147483649) n_89_6
theorem t_89_5 : e_Sn 89 5 (e_un n_89_5) := u_pushT (s_iconst (n := (1)) hq_89 (by decide +kernel) rfl ⟨by decide +kernel, by decide +kernel⟩ : e_Sn 89 5 (o_push (.inl 2147483649) 6)) t_89_6
noncomputable def n_89_4 : e_Y := u_ld f_okI f_l1 n_89_5
theorem t_89_4 : e_Sn 89 4 (e_un n_89_4) := u_ldIT f_l1_eq (s_iload (i := .iload_n 1) (len := 1) hq_89 (by decide +kernel) rfl (.inr ⟨1, rfl, rfl, rfl⟩) : e_Sn 89 4 (o_load e_okI 1 5)) t_89_5
noncomputable def n_89_3 : e_Y := u_st f_okA f_s2 n_89_4
theorem t_89_3 : e_Sn 89 3 (e_un n_89_3) := u_stAT (fun _ _ _ => f_s2_eq) (s_astore (i := .astore_n 2) (len := 1) hq_89 (by decide +kernel) rfl (.inr ⟨2, rfl, rfl, rfl⟩) : e_Sn 89 3 (o_store e_okR 2 4)) t_89_4
noncomputable def n_89_1 : e_Y := u_tab (o_newa 2 (e_L 9223372036854775808) 3)
theorem t_89_1 : e_Sn 89 1 (e_un n_89_1) := u_tabT (s_newJ (List.mem_of_getElem? (i := 279) (by decide +kernel)) hq_89 (by decide +kernel) rfl : e_Sn 89 1 (o_newa 2 (e_L 9223372036854775808) 3))
noncomputable def n_89_0 : e_Y := u_ld f_okI f_l1 n_89_1
theorem t_89_0 : e_Sn 89 0 (e_un n_89_0) := u_ldIT f_l1_eq (s_iload (i := .iload_n 1) (len := 1) hq_89 (by decide +kernel) rfl (.inr ⟨1, rfl, rfl, rfl⟩) : e_Sn 89 0 (o_load e_okI 1 1)) t_89_1
noncomputable def e_tb_89 : e_X := (e_br 3 (e_lf 0 (e_un n_89_0)) (e_br 8 (e_lf 3 (e_un n_89_3)) (e_lf 8 (e_un n_89_8))))
theorem e_tk_89 : e_Tb 89 e_tb_89 := (e_brT (e_lfT t_89_0) (e_brT (e_lfT t_89_3) (e_lfT t_89_8)))
theorem hq_88 : (e_ml[88]?).map (·.2.1) = some prog_20_method_13_code := rfl
theorem ho_88 : (e_ml[88]?).map (·.1.cls) = some "PlateroomprinterModel$Run" := rfl
theorem hr_88 : (e_ml[88]?).map (·.2.2.2) = some (some .int) := rfl
noncomputable def n_88_23 : e_Y := u_retI
theorem t_88_23 : e_Sn 88 23 (e_un n_88_23) := u_retIT (s_iret hq_88 hr_88 (by decide +kernel) : e_Sn 88 23 (o_ret e_okI))
noncomputable def n_88_22 : e_Y := u_ld f_okI f_l3 n_88_23
theorem t_88_22 : e_Sn 88 22 (e_un n_88_22) := u_ldIT f_l3_eq (s_iload (i := .iload_n 3) (len := 1) hq_88 (by decide +kernel) rfl (.inr ⟨3, rfl, rfl, rfl⟩) : e_Sn 88 22 (o_load e_okI 3 23)) t_88_23
noncomputable def n_88_19 : e_Y := u_callS 68 2 21 2 n_68_0 n_88_22
theorem t_88_19 : e_Sn 88 19 (e_un n_88_19) := u_callST rfl (s_callSN (host := "PlateroomprinterModel") (index := 73) hq_88 ho_88 hy_68 hp_68 hc_68 hi_68 hd_68 (List.mem_of_getElem? (i := 2203) (by decide +kernel)) hs_68 (by decide +kernel) rfl : e_Sn 88 19 (o_callS 68 2 2 22)) t_68_0 t_88_22
noncomputable def n_88_18 : e_Y := u_push (.inl 2147483651) n_88_19
theorem t_88_18 : e_Sn 88 18 (e_un n_88_18) := u_pushT (s_iconst (n := (3)) hq_88 (by decide +kernel) rfl ⟨by decide +kernel, by decide +kernel⟩ : e_Sn 88 18 (o_push (.inl 2147483651) 19)) t_88_19
noncomputable def n_88_15 : e_Y := u_callS 66 6 25 3 n_66_0 n_88_18
theorem t_88_15 : e_Sn 88 15 (e_un n_88_15) := u_callST rfl (s_callSN (host := "PlateroomprinterModel") (index := 129) hq_88 ho_88 hy_66 hp_66 hc_66 hi_66 hd_66 (List.mem_of_getElem? (i := 2202) (by decide +kernel)) hs_66 (by decide +kernel) rfl : e_Sn 88 15 (o_callS 66 6 3 18)) t_66_0 t_88_18
noncomputable def n_88_14 : e_Y := u_old (o_i2l 15) n_88_15
theorem t_88_14 : e_Sn 88 14 (e_un n_88_14) := u_oldT (s_i2l hq_88 (by decide +kernel) rfl : e_Sn 88 14 (o_i2l 15)) t_88_15 e_congr_i2l
noncomputable def n_88_13 : e_Y := u_ld f_okI f_l2 n_88_14
theorem t_88_13 : e_Sn 88 13 (e_un n_88_13) := u_ldIT f_l2_eq (s_iload (i := .iload_n 2) (len := 1) hq_88 (by decide +kernel) rfl (.inr ⟨2, rfl, rfl, rfl⟩) : e_Sn 88 13 (o_load e_okI 2 14)) t_88_14
noncomputable def n_88_12 : e_Y := u_old (o_i2l 13) n_88_13
theorem t_88_12 : e_Sn 88 12 (e_un n_88_12) := u_oldT (s_i2l hq_88 (by decide +kernel) rfl : e_Sn 88 12 (o_i2l 13)) t_88_13 e_congr_i2l
noncomputable def n_88_11 : e_Y := u_ld f_okI f_l1 n_88_12
theorem t_88_11 : e_Sn 88 11 (e_un n_88_11) := u_ldIT f_l1_eq (s_iload (i := .iload_n 1) (len := 1) hq_88 (by decide +kernel) rfl (.inr ⟨1, rfl, rfl, rfl⟩) : e_Sn 88 11 (o_load e_okI 1 12)) t_88_12
noncomputable def n_88_10 : e_Y := u_old (o_i2l 11) n_88_11
theorem t_88_10 : e_Sn 88 10 (e_un n_88_10) := u_oldT (s_i2l hq_88 (by decide +kernel) rfl : e_Sn 88 10 (o_i2l 11)) t_88_11 e_congr_i2l
noncomputable def n_88_9 : e_Y := u_ld f_okI f_l3 n_88_10
theorem t_88_9 : e_Sn 88 9 (e_un n_88_9) := u_ldIT f_l3_eq (s_iload (i := .iload_n 3) (len := 1) hq_88 (by decide +kernel) rfl (.inr ⟨3, rfl, rfl, rfl⟩) : e_Sn 88 9 (o_load e_okI 3 10)) t_88_10
noncomputable def n_88_8 : e_Y := u_st f_okI f_s3 n_88_9
theorem t_88_8 : e_Sn 88 8 (e_un n_88_8) := u_stIT (fun _ _ _ => f_s3_eq) (s_istore (i := .istore_n 3) (len := 1) hq_88 (by decide +kernel) rfl (.inr ⟨3, rfl, rfl, rfl⟩) : e_Sn 88 8 (o_store e_okI 3 9)) t_88_9
noncomputable def n_88_7 : e_Y := u_old (o_l2i 8) n_88_8
theorem t_88_7 : e_Sn 88 7 (e_un n_88_7) := u_oldT (s_l2i hq_88 (by decide +kernel) rfl : e_Sn 88 7 (o_l2i 8)) t_88_8 e_cg_l2i
noncomputable def n_88_6 : e_Y := u_ald 2 (u_old (o_aldO 2 7) n_88_7) n_88_7
theorem t_88_6 : e_Sn 88 6 (e_un n_88_6) := u_aldOT (s_lald hq_88 (by decide +kernel) rfl : e_Sn 88 6 (o_aldO 2 7)) t_88_7
noncomputable def n_88_5 : e_Y := u_push (.inl 2147483648) n_88_6
theorem t_88_5 : e_Sn 88 5 (e_un n_88_5) := u_pushT (s_iconst (n := (0)) hq_88 (by decide +kernel) rfl ⟨by decide +kernel, by decide +kernel⟩ : e_Sn 88 5 (o_push (.inl 2147483648) 6)) t_88_6
noncomputable def n_88_2 : e_Y := u_callV 16 89 4 23 2 n_89_0 n_88_5
theorem t_88_2 : e_Sn 88 2 (e_un n_88_2) := u_callVT rfl (s_callV (ci := 16) (C := er_16) (T := et_16) (N := 5) (index := 155) hq_88 ho_88 hy_89 hp_89 hc_89 hi_89 hd_89 (List.mem_of_getElem? (i := 2267) (by decide +kernel)) hs_89 (List.mem_of_getElem? (i := 85) (by decide +kernel)) rfl (by decide +kernel) rfl : e_Sn 88 2 (o_callV (e_s1 16 89 4) 2 5)) t_89_0 t_88_5
noncomputable def n_88_1 : e_Y := u_push (.inl 2147483649) n_88_2
theorem t_88_1 : e_Sn 88 1 (e_un n_88_1) := u_pushT (s_iconst (n := (1)) hq_88 (by decide +kernel) rfl ⟨by decide +kernel, by decide +kernel⟩ : e_Sn 88 1 (o_push (.inl 2147483649) 2)) t_88_2
noncomputable def n_88_0 : e_Y := u_ld f_okA f_l0 n_88_1
theorem t_88_0 : e_Sn 88 0 (e_un n_88_0) := u_ldAT f_l0_eq (s_aload (i := .aload_n 0) (len := 1) hq_88 (by decide +kernel) rfl (.inr ⟨0, rfl, rfl, rfl⟩) : e_Sn 88 0 (o_load e_okR 0 1)) t_88_1
noncomputable def e_tb_88 : e_X := (e_lf 0 (e_un n_88_0))
theorem e_tk_88 : e_Tb 88 e_tb_88 := (e_lfT t_88_0)
theorem hq_84 : (e_ml[84]?).map (·.2.1) = some prog_20_method_19_code := rfl
theorem ho_84 : (e_ml[84]?).map (·.1.cls) = some "PlateroomprinterModel$Run" := rfl
theorem hr_84 : (e_ml[84]?).map (·.2.2.2) = some none := rfl
noncomputable def n_84_482 : e_Y := u_tab (o_retv)
theorem t_84_482 : e_Sn 84 482 (e_un n_84_482) := u_tabT (s_vret hq_84 hr_84 (by decide +kernel) : e_Sn 84 482 (o_retv))
noncomputable def n_84_391 : e_Y := n_84_482
theorem t_84_391 : e_Sn 84 391 (e_un n_84_391) := u_gotoT (s_goto (off := (91)) hq_84 (by decide +kernel) rfl : e_Sn 84 391 (o_goto 482)) t_84_482
noncomputable def n_84_388 : e_Y := u_callV 16 83 2 21 2 n_83_0 n_84_391
theorem t_84_388 : e_Sn 84 388 (e_un n_84_388) := u_callVT rfl (s_callV (ci := 16) (C := er_16) (T := et_16) (N := 5) (index := 213) hq_84 ho_84 hy_83 hp_83 hc_83 hi_83 hd_83 (List.mem_of_getElem? (i := 2295) (by decide +kernel)) hs_83 (List.mem_of_getElem? (i := 91) (by decide +kernel)) rfl (by decide +kernel) rfl : e_Sn 84 388 (o_callV (e_s1 16 83 2) 2 391)) t_83_0 t_84_391
noncomputable def n_84_386 : e_Y := u_ld f_okA f_l11 n_84_388
theorem t_84_386 : e_Sn 84 386 (e_un n_84_386) := u_ldAT f_l11_eq (s_aload (i := .aload 11) (len := 2) hq_84 (by decide +kernel) rfl (.inl ⟨rfl, rfl⟩) : e_Sn 84 386 (o_load e_okR 11 388)) t_84_388
noncomputable def n_84_385 : e_Y := u_ld f_okA f_l0 n_84_386
theorem t_84_385 : e_Sn 84 385 (e_un n_84_385) := u_ldAT f_l0_eq (s_aload (i := .aload_n 0) (len := 1) hq_84 (by decide +kernel) rfl (.inr ⟨0, rfl, rfl, rfl⟩) : e_Sn 84 385 (o_load e_okR 0 386)) t_84_386
noncomputable def n_84_382 : e_Y := u_old (o_putf (e_f1 15 3) e_okI 385) n_84_385
theorem t_84_382 : e_Sn 84 382 (e_un n_84_382) := u_oldT (s_putf (ty0 := ey_15) (ok := e_okI) (C := er_15) (T := et_15) (N := 8) (ref := "PlateroomprinterModel$Row") (index := 111) (ci := 15) (k := 3) hq_84 ho_84 ⟨rfl, by decide, ei_15, (List.mem_of_getElem? (i := 2127) (by decide +kernel)), .inl rfl⟩ eo_15 en_15 e_oksI (.inl rfl) (by decide +kernel) rfl : e_Sn 84 382 (o_putf (e_f1 15 3) e_okI 385)) t_84_385 (e_cg_putf (e_f1 15 3) e_okI)
noncomputable def n_84_379 : e_Y := u_callV 16 88 4 23 3 n_88_0 n_84_382
theorem t_84_379 : e_Sn 84 379 (e_un n_84_379) := u_callVT rfl (s_callV (ci := 16) (C := er_16) (T := et_16) (N := 5) (index := 210) hq_84 ho_84 hy_88 hp_88 hc_88 hi_88 hd_88 (List.mem_of_getElem? (i := 2291) (by decide +kernel)) hs_88 (List.mem_of_getElem? (i := 90) (by decide +kernel)) rfl (by decide +kernel) rfl : e_Sn 84 379 (o_callV (e_s1 16 88 4) 3 382)) t_88_0 t_84_382
noncomputable def n_84_377 : e_Y := u_push (.inl 2147483747) n_84_379
theorem t_84_377 : e_Sn 84 377 (e_un n_84_377) := u_pushT (s_bipush (n := (99)) hq_84 (by decide +kernel) rfl ⟨by decide +kernel, by decide +kernel⟩ : e_Sn 84 377 (o_push (.inl 2147483747) 379)) t_84_379
noncomputable def n_84_376 : e_Y := u_push (.inl 2147483648) n_84_377
theorem t_84_376 : e_Sn 84 376 (e_un n_84_376) := u_pushT (s_iconst (n := (0)) hq_84 (by decide +kernel) rfl ⟨by decide +kernel, by decide +kernel⟩ : e_Sn 84 376 (o_push (.inl 2147483648) 377)) t_84_377
noncomputable def n_84_375 : e_Y := u_ld f_okA f_l0 n_84_376
theorem t_84_375 : e_Sn 84 375 (e_un n_84_375) := u_ldAT f_l0_eq (s_aload (i := .aload_n 0) (len := 1) hq_84 (by decide +kernel) rfl (.inr ⟨0, rfl, rfl, rfl⟩) : e_Sn 84 375 (o_load e_okR 0 376)) t_84_376
noncomputable def n_84_373 : e_Y := u_ld f_okA f_l11 n_84_375
theorem t_84_373 : e_Sn 84 373 (e_un n_84_373) := u_ldAT f_l11_eq (s_aload (i := .aload 11) (len := 2) hq_84 (by decide +kernel) rfl (.inl ⟨rfl, rfl⟩) : e_Sn 84 373 (o_load e_okR 11 375)) t_84_375
noncomputable def n_84_371 : e_Y := u_st f_okA f_s11 n_84_373
theorem t_84_371 : e_Sn 84 371 (e_un n_84_371) := u_stAT (fun _ _ _ => f_s11_eq) (s_astore (i := .astore 11) (len := 2) hq_84 (by decide +kernel) rfl (.inl ⟨rfl, rfl⟩) : e_Sn 84 371 (o_store e_okR 11 373)) t_84_373
noncomputable def n_84_368 : e_Y := u_tab (o_callI 78 2 2 371)
theorem t_84_368 : e_Sn 84 368 (e_un n_84_368) := u_tabT (s_callI (index := 31) hq_84 ho_84 hy_78 hp_78 hc_78 hi_78 hd_78 (List.mem_of_getElem? (i := 2118) (by decide +kernel)) rfl rfl hs_78 (by decide +kernel) rfl : e_Sn 84 368 (o_callI 78 2 2 371))
noncomputable def n_84_365 : e_Y := u_getf 13 2 (u_old (o_getf (e_f1 13 2) 368) n_84_368) n_84_368
theorem t_84_365 : e_Sn 84 365 (e_un n_84_365) := u_getfT (s_getf (C := er_13) (T := et_13) (N := 3) (ref := "PlateroomprinterModel$Item") (index := 181) (ci := 13) (k := 2) hq_84 ho_84 ⟨rfl, by decide, ei_13, (List.mem_of_getElem? (i := 2241) (by decide +kernel)), .inl rfl⟩ (by decide +kernel) rfl : e_Sn 84 365 (o_getf (e_f1 13 2) 368)) t_84_368
noncomputable def n_84_362 : e_Y := u_callV 16 97 3 22 2 n_97_0 n_84_365
theorem t_84_362 : e_Sn 84 362 (e_un n_84_362) := u_callVT rfl (s_callV (ci := 16) (C := er_16) (T := et_16) (N := 5) (index := 149) hq_84 ho_84 hy_97 hp_97 hc_97 hi_97 hd_97 (List.mem_of_getElem? (i := 2271) (by decide +kernel)) hs_97 (List.mem_of_getElem? (i := 86) (by decide +kernel)) rfl (by decide +kernel) rfl : e_Sn 84 362 (o_callV (e_s1 16 97 3) 2 365)) t_97_0 t_84_365
noncomputable def n_84_361 : e_Y := u_push (.inl 2147483650) n_84_362
theorem t_84_361 : e_Sn 84 361 (e_un n_84_361) := u_pushT (s_iconst (n := (2)) hq_84 (by decide +kernel) rfl ⟨by decide +kernel, by decide +kernel⟩ : e_Sn 84 361 (o_push (.inl 2147483650) 362)) t_84_362
noncomputable def n_84_360 : e_Y := u_ld f_okA f_l0 n_84_361
theorem t_84_360 : e_Sn 84 360 (e_un n_84_360) := u_ldAT f_l0_eq (s_aload (i := .aload_n 0) (len := 1) hq_84 (by decide +kernel) rfl (.inr ⟨0, rfl, rfl, rfl⟩) : e_Sn 84 360 (o_load e_okR 0 361)) t_84_361
noncomputable def n_84_359 : e_Y := u_old (o_dup 360) n_84_360
theorem t_84_359 : e_Sn 84 359 (e_un n_84_359) := u_oldT (s_dup hq_84 (by decide +kernel) rfl : e_Sn 84 359 (o_dup 360)) t_84_360 e_cg_dup
noncomputable def n_84_356 : e_Y := u_tab (o_new 15 8 ef_15 359)
theorem t_84_356 : e_Sn 84 356 (e_un n_84_356) := u_tabT (s_new (index := 29) (ci := 15) (N := 8) (C := er_15) (T := et_15) (ty0 := ey_15) (fv := eg_15) hq_84 ho_84 rfl ei_15 eo_15 (List.mem_of_getElem? (i := 2116) (by decide +kernel)) (List.mem_of_getElem? (i := 2117) (by decide +kernel)) (List.mem_of_getElem? (i := 171) (by decide +kernel)) eh_15 rfl (e_newrel ek_15) (by decide +kernel) rfl : e_Sn 84 356 (o_new 15 8 ef_15 359))
noncomputable def n_84_1 : e_Y := u_tab (o_switch 2147483657 [60, 78, 86, 111, 198, 216, 243, 265, 303, 356, 394] 478)
theorem t_84_1 : e_Sn 84 1 (e_un n_84_1) := u_tabT (s_switch (dflt := (477)) (low := (9)) (hi := (19)) (offs := #[(59), (77), (85), (110), (197), (215), (242), (264), (302), (355), (393)]) (len := 59) hq_84 (by decide +kernel) rfl rfl rfl rfl : e_Sn 84 1 (o_switch 2147483657 [60, 78, 86, 111, 198, 216, 243, 265, 303, 356, 394] 478))
noncomputable def n_84_0 : e_Y := u_ld f_okI f_l1 n_84_1
theorem t_84_0 : e_Sn 84 0 (e_un n_84_0) := u_ldIT f_l1_eq (s_iload (i := .iload_n 1) (len := 1) hq_84 (by decide +kernel) rfl (.inr ⟨1, rfl, rfl, rfl⟩) : e_Sn 84 0 (o_load e_okI 1 1)) t_84_1
noncomputable def e_tb_84 : e_X := (e_br 359 (e_br 356 (e_lf 0 (e_un n_84_0)) (e_lf 356 (e_un n_84_356))) (e_br 371 (e_lf 359 (e_un n_84_359)) (e_lf 371 (e_un n_84_371))))
theorem e_tk_84 : e_Tb 84 e_tb_84 := (e_brT (e_brT (e_lfT t_84_0) (e_lfT t_84_356)) (e_brT (e_lfT t_84_359) (e_lfT t_84_371)))
theorem hq_91 : (e_ml[91]?).map (·.2.1) = some prog_20_method_47_code := rfl
theorem ho_91 : (e_ml[91]?).map (·.1.cls) = some "PlateroomprinterModel$Run" := rfl
theorem hr_91 : (e_ml[91]?).map (·.2.2.2) = some none := rfl
noncomputable def n_91_53 : e_Y := u_tab (o_retv)
theorem t_91_53 : e_Sn 91 53 (e_un n_91_53) := u_tabT (s_vret hq_91 hr_91 (by decide +kernel) : e_Sn 91 53 (o_retv))
noncomputable def n_91_50 : e_Y := u_old (o_putf (e_f1 14 5) e_okR 53) n_91_53
theorem t_91_50 : e_Sn 91 50 (e_un n_91_50) := u_oldT (s_putf (ty0 := ey_14) (ok := e_okR) (C := er_14) (T := et_14) (N := 13) (ref := "PlateroomprinterModel$Machine") (index := 326) (ci := 14) (k := 5) hq_91 ho_91 ⟨rfl, by decide, ei_14, (List.mem_of_getElem? (i := 1906) (by decide +kernel)), .inl rfl⟩ eo_14 en_14 e_oksR (.inl rfl) (by decide +kernel) rfl : e_Sn 91 50 (o_putf (e_f1 14 5) e_okR 53)) t_91_53 (e_cg_putf (e_f1 14 5) e_okR)
noncomputable def n_91_47 : e_Y := u_tab (o_callI 106 1 1 50)
theorem t_91_47 : e_Sn 91 47 (e_un n_91_47) := u_tabT (s_callI (index := 11) hq_91 ho_91 hy_106 hp_106 hc_106 hi_106 hd_106 (List.mem_of_getElem? (i := 2115) (by decide +kernel)) rfl rfl hs_106 (by decide +kernel) rfl : e_Sn 91 47 (o_callI 106 1 1 50))
noncomputable def n_91_46 : e_Y := u_old (o_dup 47) n_91_47
theorem t_91_46 : e_Sn 91 46 (e_un n_91_46) := u_oldT (s_dup hq_91 (by decide +kernel) rfl : e_Sn 91 46 (o_dup 47)) t_91_47 e_cg_dup
noncomputable def n_91_43 : e_Y := u_tab (o_new 19 3 ef_19 46)
theorem t_91_43 : e_Sn 91 43 (e_un n_91_43) := u_tabT (s_new (index := 9) (ci := 19) (N := 3) (C := er_19) (T := et_19) (ty0 := ey_19) (fv := eg_19) hq_91 ho_91 rfl ei_19 eo_19 (List.mem_of_getElem? (i := 2114) (by decide +kernel)) (List.mem_of_getElem? (i := 1751) (by decide +kernel)) (List.mem_of_getElem? (i := 155) (by decide +kernel)) eh_19 rfl (e_newrel ek_19) (by decide +kernel) rfl : e_Sn 91 43 (o_new 19 3 ef_19 46))
noncomputable def n_91_40 : e_Y := u_getf 16 0 (u_old (o_getf (e_f1 16 0) 43) n_91_43) n_91_43
theorem t_91_40 : e_Sn 91 40 (e_un n_91_40) := u_getfT (s_getf (C := er_16) (T := et_16) (N := 5) (ref := "PlateroomprinterModel$Run") (index := 25) (ci := 16) (k := 0) hq_91 ho_91 ⟨rfl, by decide, ei_16, (List.mem_of_getElem? (i := 2150) (by decide +kernel)), .inl rfl⟩ (by decide +kernel) rfl : e_Sn 91 40 (o_getf (e_f1 16 0) 43)) t_91_43
noncomputable def n_91_39 : e_Y := u_ld f_okA f_l0 n_91_40
theorem t_91_39 : e_Sn 91 39 (e_un n_91_39) := u_ldAT f_l0_eq (s_aload (i := .aload_n 0) (len := 1) hq_91 (by decide +kernel) rfl (.inr ⟨0, rfl, rfl, rfl⟩) : e_Sn 91 39 (o_load e_okR 0 40)) t_91_40
noncomputable def n_91_36 : e_Y := u_old (o_putf (e_f1 14 6) e_okR 39) n_91_39
theorem t_91_36 : e_Sn 91 36 (e_un n_91_36) := u_oldT (s_putf (ty0 := ey_14) (ok := e_okR) (C := er_14) (T := et_14) (N := 13) (ref := "PlateroomprinterModel$Machine") (index := 356) (ci := 14) (k := 6) hq_91 ho_91 ⟨rfl, by decide, ei_14, (List.mem_of_getElem? (i := 1909) (by decide +kernel)), .inl rfl⟩ eo_14 en_14 e_oksA (.inl rfl) (by decide +kernel) rfl : e_Sn 91 36 (o_putf (e_f1 14 6) e_okR 39)) t_91_39 (e_cg_putf (e_f1 14 6) e_okR)
noncomputable def n_91_34 : e_Y := u_tab (o_newa 1 (e_I 2147483648) 36)
theorem t_91_34 : e_Sn 91 34 (e_un n_91_34) := u_tabT (s_newZ (List.mem_of_getElem? (i := 1819) (by decide +kernel)) hq_91 (by decide +kernel) rfl : e_Sn 91 34 (o_newa 1 (e_I 2147483648) 36))
noncomputable def n_91_31 : e_Y := u_push (.inl 2147487744) n_91_34
theorem t_91_31 : e_Sn 91 31 (e_un n_91_31) := u_pushT (s_sipush (n := (4096)) hq_91 (by decide +kernel) rfl ⟨by decide +kernel, by decide +kernel⟩ : e_Sn 91 31 (o_push (.inl 2147487744) 34)) t_91_34
noncomputable def n_91_28 : e_Y := u_getf 16 0 (u_old (o_getf (e_f1 16 0) 31) n_91_31) n_91_31
theorem t_91_28 : e_Sn 91 28 (e_un n_91_28) := u_getfT (s_getf (C := er_16) (T := et_16) (N := 5) (ref := "PlateroomprinterModel$Run") (index := 25) (ci := 16) (k := 0) hq_91 ho_91 ⟨rfl, by decide, ei_16, (List.mem_of_getElem? (i := 2150) (by decide +kernel)), .inl rfl⟩ (by decide +kernel) rfl : e_Sn 91 28 (o_getf (e_f1 16 0) 31)) t_91_31
noncomputable def n_91_27 : e_Y := u_ld f_okA f_l0 n_91_28
theorem t_91_27 : e_Sn 91 27 (e_un n_91_27) := u_ldAT f_l0_eq (s_aload (i := .aload_n 0) (len := 1) hq_91 (by decide +kernel) rfl (.inr ⟨0, rfl, rfl, rfl⟩) : e_Sn 91 27 (o_load e_okR 0 28)) t_91_28
noncomputable def n_91_24 : e_Y := u_old (o_putf (e_f1 14 7) e_okR 27) n_91_27
theorem t_91_24 : e_Sn 91 24 (e_un n_91_24) := u_oldT (s_putf (ty0 := ey_14) (ok := e_okR) (C := er_14) (T := et_14) (N := 13) (ref := "PlateroomprinterModel$Machine") (index := 502) (ci := 14) (k := 7) hq_91 ho_91 ⟨rfl, by decide, ei_14, (List.mem_of_getElem? (i := 1912) (by decide +kernel)), .inl rfl⟩ eo_14 en_14 e_oksA (.inl rfl) (by decide +kernel) rfl : e_Sn 91 24 (o_putf (e_f1 14 7) e_okR 27)) t_91_27 (e_cg_putf (e_f1 14 7) e_okR)
noncomputable def n_91_21 : e_Y := u_getf 14 6 (u_old (o_getf (e_f1 14 6) 24) n_91_24) n_91_24
theorem t_91_21 : e_Sn 91 21 (e_un n_91_21) := u_getfT (s_getf (C := er_14) (T := et_14) (N := 13) (ref := "PlateroomprinterModel$Machine") (index := 356) (ci := 14) (k := 6) hq_91 ho_91 ⟨rfl, by decide, ei_14, (List.mem_of_getElem? (i := 1909) (by decide +kernel)), .inl rfl⟩ (by decide +kernel) rfl : e_Sn 91 21 (o_getf (e_f1 14 6) 24)) t_91_24
noncomputable def n_91_18 : e_Y := u_getf 16 0 (u_old (o_getf (e_f1 16 0) 21) n_91_21) n_91_21
theorem t_91_18 : e_Sn 91 18 (e_un n_91_18) := u_getfT (s_getf (C := er_16) (T := et_16) (N := 5) (ref := "PlateroomprinterModel$Run") (index := 25) (ci := 16) (k := 0) hq_91 ho_91 ⟨rfl, by decide, ei_16, (List.mem_of_getElem? (i := 2150) (by decide +kernel)), .inl rfl⟩ (by decide +kernel) rfl : e_Sn 91 18 (o_getf (e_f1 16 0) 21)) t_91_21
noncomputable def n_91_17 : e_Y := u_ld f_okA f_l0 n_91_18
theorem t_91_17 : e_Sn 91 17 (e_un n_91_17) := u_ldAT f_l0_eq (s_aload (i := .aload_n 0) (len := 1) hq_91 (by decide +kernel) rfl (.inr ⟨0, rfl, rfl, rfl⟩) : e_Sn 91 17 (o_load e_okR 0 18)) t_91_18
noncomputable def n_91_14 : e_Y := u_getf 16 0 (u_old (o_getf (e_f1 16 0) 17) n_91_17) n_91_17
theorem t_91_14 : e_Sn 91 14 (e_un n_91_14) := u_getfT (s_getf (C := er_16) (T := et_16) (N := 5) (ref := "PlateroomprinterModel$Run") (index := 25) (ci := 16) (k := 0) hq_91 ho_91 ⟨rfl, by decide, ei_16, (List.mem_of_getElem? (i := 2150) (by decide +kernel)), .inl rfl⟩ (by decide +kernel) rfl : e_Sn 91 14 (o_getf (e_f1 16 0) 17)) t_91_17
noncomputable def n_91_13 : e_Y := u_ld f_okA f_l0 n_91_14
theorem t_91_13 : e_Sn 91 13 (e_un n_91_13) := u_ldAT f_l0_eq (s_aload (i := .aload_n 0) (len := 1) hq_91 (by decide +kernel) rfl (.inr ⟨0, rfl, rfl, rfl⟩) : e_Sn 91 13 (o_load e_okR 0 14)) t_91_14
noncomputable def n_91_10 : e_Y := u_old (o_putf (e_f1 14 8) e_okI 13) n_91_13
theorem t_91_10 : e_Sn 91 10 (e_un n_91_10) := u_oldT (s_putf (ty0 := ey_14) (ok := e_okI) (C := er_14) (T := et_14) (N := 13) (ref := "PlateroomprinterModel$Machine") (index := 499) (ci := 14) (k := 8) hq_91 ho_91 ⟨rfl, by decide, ei_14, (List.mem_of_getElem? (i := 1916) (by decide +kernel)), .inl rfl⟩ eo_14 en_14 e_oksI (.inl rfl) (by decide +kernel) rfl : e_Sn 91 10 (o_putf (e_f1 14 8) e_okI 13)) t_91_13 (e_cg_putf (e_f1 14 8) e_okI)
noncomputable def n_91_9 : e_Y := u_bin a_iadd (u_old (o_iadd 10) n_91_10) n_91_10
theorem t_91_9 : e_Sn 91 9 (e_un n_91_9) := u_iaddT (s_iadd hq_91 (by decide +kernel) rfl : e_Sn 91 9 (o_iadd 10)) t_91_10
noncomputable def n_91_8 : e_Y := u_push (.inl 2147483649) n_91_9
theorem t_91_8 : e_Sn 91 8 (e_un n_91_8) := u_pushT (s_iconst (n := (1)) hq_91 (by decide +kernel) rfl ⟨by decide +kernel, by decide +kernel⟩ : e_Sn 91 8 (o_push (.inl 2147483649) 9)) t_91_9
noncomputable def n_91_5 : e_Y := u_getf 14 8 (u_old (o_getf (e_f1 14 8) 8) n_91_8) n_91_8
theorem t_91_5 : e_Sn 91 5 (e_un n_91_5) := u_getfT (s_getf (C := er_14) (T := et_14) (N := 13) (ref := "PlateroomprinterModel$Machine") (index := 499) (ci := 14) (k := 8) hq_91 ho_91 ⟨rfl, by decide, ei_14, (List.mem_of_getElem? (i := 1916) (by decide +kernel)), .inl rfl⟩ (by decide +kernel) rfl : e_Sn 91 5 (o_getf (e_f1 14 8) 8)) t_91_8
noncomputable def n_91_4 : e_Y := u_old (o_dup 5) n_91_5
theorem t_91_4 : e_Sn 91 4 (e_un n_91_4) := u_oldT (s_dup hq_91 (by decide +kernel) rfl : e_Sn 91 4 (o_dup 5)) t_91_5 e_cg_dup
noncomputable def n_91_1 : e_Y := u_getf 16 0 (u_old (o_getf (e_f1 16 0) 4) n_91_4) n_91_4
theorem t_91_1 : e_Sn 91 1 (e_un n_91_1) := u_getfT (s_getf (C := er_16) (T := et_16) (N := 5) (ref := "PlateroomprinterModel$Run") (index := 25) (ci := 16) (k := 0) hq_91 ho_91 ⟨rfl, by decide, ei_16, (List.mem_of_getElem? (i := 2150) (by decide +kernel)), .inl rfl⟩ (by decide +kernel) rfl : e_Sn 91 1 (o_getf (e_f1 16 0) 4)) t_91_4
noncomputable def n_91_0 : e_Y := u_ld f_okA f_l0 n_91_1
theorem t_91_0 : e_Sn 91 0 (e_un n_91_0) := u_ldAT f_l0_eq (s_aload (i := .aload_n 0) (len := 1) hq_91 (by decide +kernel) rfl (.inr ⟨0, rfl, rfl, rfl⟩) : e_Sn 91 0 (o_load e_okR 0 1)) t_91_1
noncomputable def e_tb_91 : e_X := (e_br 46 (e_br 36 (e_lf 0 (e_un n_91_0)) (e_lf 36 (e_un n_91_36))) (e_br 50 (e_lf 46 (e_un n_91_46)) (e_lf 50 (e_un n_91_50))))
theorem e_tk_91 : e_Tb 91 e_tb_91 := (e_brT (e_brT (e_lfT t_91_0) (e_lfT t_91_36)) (e_brT (e_lfT t_91_46) (e_lfT t_91_50)))
theorem hq_92 : (e_ml[92]?).map (·.2.1) = some prog_20_method_38_code := rfl
theorem ho_92 : (e_ml[92]?).map (·.1.cls) = some "PlateroomprinterModel$Run" := rfl
theorem hr_92 : (e_ml[92]?).map (·.2.2.2) = some none := rfl
noncomputable def n_92_465 : e_Y := u_tab (o_retv)
theorem t_92_465 : e_Sn 92 465 (e_un n_92_465) := u_tabT (s_vret hq_92 hr_92 (by decide +kernel) : e_Sn 92 465 (o_retv))
noncomputable def n_92_462 : e_Y := u_callV 16 91 1 20 1 n_91_0 n_92_465
theorem t_92_462 : e_Sn 92 462 (e_un n_92_462) := u_callVT rfl (s_callV (ci := 16) (C := er_16) (T := et_16) (N := 5) (index := 429) hq_92 ho_92 hy_91 hp_91 hc_91 hi_91 hd_91 (List.mem_of_getElem? (i := 2877) (by decide +kernel)) hs_91 (List.mem_of_getElem? (i := 118) (by decide +kernel)) rfl (by decide +kernel) rfl : e_Sn 92 462 (o_callV (e_s1 16 91 1) 1 465)) t_91_0 t_92_465
noncomputable def n_92_461 : e_Y := u_ld f_okA f_l0 n_92_462
theorem t_92_461 : e_Sn 92 461 (e_un n_92_461) := u_ldAT f_l0_eq (s_aload (i := .aload_n 0) (len := 1) hq_92 (by decide +kernel) rfl (.inr ⟨0, rfl, rfl, rfl⟩) : e_Sn 92 461 (o_load e_okR 0 462)) t_92_462
noncomputable def n_92_9 : e_Y := u_tab (o_switch 2147483683 [92, 92, 125, 187, 187, 239, 269, 269, 291, 307, 322, 337, 353, 370, 392, 406, 435] 461)
theorem t_92_9 : e_Sn 92 9 (e_un n_92_9) := u_tabT (s_switch (dflt := (452)) (low := (35)) (hi := (51)) (offs := #[(83), (83), (116), (178), (178), (230), (260), (260), (282), (298), (313), (328), (344), (361), (383), (397), (426)]) (len := 83) hq_92 (by decide +kernel) rfl rfl rfl rfl : e_Sn 92 9 (o_switch 2147483683 [92, 92, 125, 187, 187, 239, 269, 269, 291, 307, 322, 337, 353, 370, 392, 406, 435] 461))
noncomputable def n_92_8 : e_Y := u_ld f_okI f_l1 n_92_9
theorem t_92_8 : e_Sn 92 8 (e_un n_92_8) := u_ldIT f_l1_eq (s_iload (i := .iload_n 1) (len := 1) hq_92 (by decide +kernel) rfl (.inr ⟨1, rfl, rfl, rfl⟩) : e_Sn 92 8 (o_load e_okI 1 9)) t_92_9
noncomputable def n_92_7 : e_Y := u_st f_okA f_s2 n_92_8
theorem t_92_7 : e_Sn 92 7 (e_un n_92_7) := u_stAT (fun _ _ _ => f_s2_eq) (s_astore (i := .astore_n 2) (len := 1) hq_92 (by decide +kernel) rfl (.inr ⟨2, rfl, rfl, rfl⟩) : e_Sn 92 7 (o_store e_okR 2 8)) t_92_8
noncomputable def n_92_4 : e_Y := u_getf 14 2 (u_old (o_getf (e_f1 14 2) 7) n_92_7) n_92_7
theorem t_92_4 : e_Sn 92 4 (e_un n_92_4) := u_getfT (s_getf (C := er_14) (T := et_14) (N := 13) (ref := "PlateroomprinterModel$Machine") (index := 219) (ci := 14) (k := 2) hq_92 ho_92 ⟨rfl, by decide, ei_14, (List.mem_of_getElem? (i := 1897) (by decide +kernel)), .inl rfl⟩ (by decide +kernel) rfl : e_Sn 92 4 (o_getf (e_f1 14 2) 7)) t_92_7
noncomputable def n_92_1 : e_Y := u_getf 16 0 (u_old (o_getf (e_f1 16 0) 4) n_92_4) n_92_4
theorem t_92_1 : e_Sn 92 1 (e_un n_92_1) := u_getfT (s_getf (C := er_16) (T := et_16) (N := 5) (ref := "PlateroomprinterModel$Run") (index := 25) (ci := 16) (k := 0) hq_92 ho_92 ⟨rfl, by decide, ei_16, (List.mem_of_getElem? (i := 2150) (by decide +kernel)), .inl rfl⟩ (by decide +kernel) rfl : e_Sn 92 1 (o_getf (e_f1 16 0) 4)) t_92_4
noncomputable def n_92_0 : e_Y := u_ld f_okA f_l0 n_92_1
theorem t_92_0 : e_Sn 92 0 (e_un n_92_0) := u_ldAT f_l0_eq (s_aload (i := .aload_n 0) (len := 1) hq_92 (by decide +kernel) rfl (.inr ⟨0, rfl, rfl, rfl⟩) : e_Sn 92 0 (o_load e_okR 0 1)) t_92_1
noncomputable def e_tb_92 : e_X := (e_br 461 (e_lf 0 (e_un n_92_0)) (e_lf 461 (e_un n_92_461)))
theorem e_tk_92 : e_Tb 92 e_tb_92 := (e_brT (e_lfT t_92_0) (e_lfT t_92_461))
theorem hq_90 : (e_ml[90]?).map (·.2.1) = some prog_20_method_17_code := rfl
theorem ho_90 : (e_ml[90]?).map (·.1.cls) = some "PlateroomprinterModel$Run" := rfl
theorem hr_90 : (e_ml[90]?).map (·.2.2.2) = some none := rfl
noncomputable def n_90_61 : e_Y := u_tab (o_retv)
theorem t_90_61 : e_Sn 90 61 (e_un n_90_61) := u_tabT (s_vret hq_90 hr_90 (by decide +kernel) : e_Sn 90 61 (o_retv))
noncomputable def n_90_58 : e_Y := u_callV 16 92 8 27 2 n_92_0 n_90_61
theorem t_90_58 : e_Sn 90 58 (e_un n_90_58) := u_callVT rfl (s_callV (ci := 16) (C := er_16) (T := et_16) (N := 5) (index := 197) hq_90 ho_90 hy_92 hp_92 hc_92 hi_92 hd_92 (List.mem_of_getElem? (i := 2432) (by decide +kernel)) hs_92 (List.mem_of_getElem? (i := 103) (by decide +kernel)) rfl (by decide +kernel) rfl : e_Sn 90 58 (o_callV (e_s1 16 92 8) 2 61)) t_92_0 t_90_61
noncomputable def n_90_57 : e_Y := u_ld f_okI f_l1 n_90_58
theorem t_90_57 : e_Sn 90 57 (e_un n_90_57) := u_ldIT f_l1_eq (s_iload (i := .iload_n 1) (len := 1) hq_90 (by decide +kernel) rfl (.inr ⟨1, rfl, rfl, rfl⟩) : e_Sn 90 57 (o_load e_okI 1 58)) t_90_58
noncomputable def n_90_56 : e_Y := u_ld f_okA f_l0 n_90_57
theorem t_90_56 : e_Sn 90 56 (e_un n_90_56) := u_ldAT f_l0_eq (s_aload (i := .aload_n 0) (len := 1) hq_90 (by decide +kernel) rfl (.inr ⟨0, rfl, rfl, rfl⟩) : e_Sn 90 56 (o_load e_okR 0 57)) t_90_57
noncomputable def n_90_45 : e_Y := u_jmp y_ge (u_old2 (o_clt 48 56) 48 (u_at 48) n_90_56) (u_at 48) n_90_56
theorem t_90_45 : e_Sn 90 45 (e_un n_90_45) := u_cltT rfl (s_cge (off := (11)) hq_90 (by decide +kernel) rfl rfl : e_Sn 90 45 (o_clt 48 56)) u_atT t_90_56
noncomputable def n_90_43 : e_Y := u_push (.inl 2147483683) n_90_45
theorem t_90_43 : e_Sn 90 43 (e_un n_90_43) := u_pushT (s_bipush (n := (35)) hq_90 (by decide +kernel) rfl ⟨by decide +kernel, by decide +kernel⟩ : e_Sn 90 43 (o_push (.inl 2147483683) 45)) t_90_45
noncomputable def n_90_42 : e_Y := u_ld f_okI f_l1 n_90_43
theorem t_90_42 : e_Sn 90 42 (e_un n_90_42) := u_ldIT f_l1_eq (s_iload (i := .iload_n 1) (len := 1) hq_90 (by decide +kernel) rfl (.inr ⟨1, rfl, rfl, rfl⟩) : e_Sn 90 42 (o_load e_okI 1 43)) t_90_43
noncomputable def n_90_31 : e_Y := u_jmp y_ge (u_old2 (o_clt 34 42) 34 (u_at 34) n_90_42) (u_at 34) n_90_42
theorem t_90_31 : e_Sn 90 31 (e_un n_90_31) := u_cltT rfl (s_cge (off := (11)) hq_90 (by decide +kernel) rfl rfl : e_Sn 90 31 (o_clt 34 42)) u_atT t_90_42
noncomputable def n_90_29 : e_Y := u_push (.inl 2147483675) n_90_31
theorem t_90_29 : e_Sn 90 29 (e_un n_90_29) := u_pushT (s_bipush (n := (27)) hq_90 (by decide +kernel) rfl ⟨by decide +kernel, by decide +kernel⟩ : e_Sn 90 29 (o_push (.inl 2147483675) 31)) t_90_31
noncomputable def n_90_28 : e_Y := u_ld f_okI f_l1 n_90_29
theorem t_90_28 : e_Sn 90 28 (e_un n_90_28) := u_ldIT f_l1_eq (s_iload (i := .iload_n 1) (len := 1) hq_90 (by decide +kernel) rfl (.inr ⟨1, rfl, rfl, rfl⟩) : e_Sn 90 28 (o_load e_okI 1 29)) t_90_29
noncomputable def n_90_25 : e_Y := n_90_61
theorem t_90_25 : e_Sn 90 25 (e_un n_90_25) := u_gotoT (s_goto (off := (36)) hq_90 (by decide +kernel) rfl : e_Sn 90 25 (o_goto 61)) t_90_61
noncomputable def n_90_22 : e_Y := u_callV 16 84 14 33 2 n_84_0 n_90_25
theorem t_90_22 : e_Sn 90 22 (e_un n_90_22) := u_callVT rfl (s_callV (ci := 16) (C := er_16) (T := et_16) (N := 5) (index := 188) hq_90 ho_90 hy_84 hp_84 hc_84 hi_84 hd_84 (List.mem_of_getElem? (i := 2283) (by decide +kernel)) hs_84 (List.mem_of_getElem? (i := 88) (by decide +kernel)) rfl (by decide +kernel) rfl : e_Sn 90 22 (o_callV (e_s1 16 84 14) 2 25)) t_84_0 t_90_25
noncomputable def n_90_21 : e_Y := u_ld f_okI f_l1 n_90_22
theorem t_90_21 : e_Sn 90 21 (e_un n_90_21) := u_ldIT f_l1_eq (s_iload (i := .iload_n 1) (len := 1) hq_90 (by decide +kernel) rfl (.inr ⟨1, rfl, rfl, rfl⟩) : e_Sn 90 21 (o_load e_okI 1 22)) t_90_22
noncomputable def n_90_20 : e_Y := u_ld f_okA f_l0 n_90_21
theorem t_90_20 : e_Sn 90 20 (e_un n_90_20) := u_ldAT f_l0_eq (s_aload (i := .aload_n 0) (len := 1) hq_90 (by decide +kernel) rfl (.inr ⟨0, rfl, rfl, rfl⟩) : e_Sn 90 20 (o_load e_okR 0 21)) t_90_21
noncomputable def n_90_17 : e_Y := u_jmp y_ge (u_old2 (o_clt 20 28) 20 n_90_20 n_90_28) n_90_20 n_90_28
theorem t_90_17 : e_Sn 90 17 (e_un n_90_17) := u_cltT rfl (s_cge (off := (11)) hq_90 (by decide +kernel) rfl rfl : e_Sn 90 17 (o_clt 20 28)) t_90_20 t_90_28
noncomputable def n_90_15 : e_Y := u_push (.inl 2147483669) n_90_17
theorem t_90_15 : e_Sn 90 15 (e_un n_90_15) := u_pushT (s_bipush (n := (21)) hq_90 (by decide +kernel) rfl ⟨by decide +kernel, by decide +kernel⟩ : e_Sn 90 15 (o_push (.inl 2147483669) 17)) t_90_17
noncomputable def n_90_14 : e_Y := u_ld f_okI f_l1 n_90_15
theorem t_90_14 : e_Sn 90 14 (e_un n_90_14) := u_ldIT f_l1_eq (s_iload (i := .iload_n 1) (len := 1) hq_90 (by decide +kernel) rfl (.inr ⟨1, rfl, rfl, rfl⟩) : e_Sn 90 14 (o_load e_okI 1 15)) t_90_15
noncomputable def n_90_3 : e_Y := u_jmp y_ge (u_old2 (o_clt 6 14) 6 (u_at 6) n_90_14) (u_at 6) n_90_14
theorem t_90_3 : e_Sn 90 3 (e_un n_90_3) := u_cltT rfl (s_cge (off := (11)) hq_90 (by decide +kernel) rfl rfl : e_Sn 90 3 (o_clt 6 14)) u_atT t_90_14
noncomputable def n_90_1 : e_Y := u_push (.inl 2147483657) n_90_3
theorem t_90_1 : e_Sn 90 1 (e_un n_90_1) := u_pushT (s_bipush (n := (9)) hq_90 (by decide +kernel) rfl ⟨by decide +kernel, by decide +kernel⟩ : e_Sn 90 1 (o_push (.inl 2147483657) 3)) t_90_3
noncomputable def n_90_0 : e_Y := u_ld f_okI f_l1 n_90_1
theorem t_90_0 : e_Sn 90 0 (e_un n_90_0) := u_ldIT f_l1_eq (s_iload (i := .iload_n 1) (len := 1) hq_90 (by decide +kernel) rfl (.inr ⟨1, rfl, rfl, rfl⟩) : e_Sn 90 0 (o_load e_okI 1 1)) t_90_1
noncomputable def e_tb_90 : e_X := (e_lf 0 (e_un n_90_0))
theorem e_tk_90 : e_Tb 90 e_tb_90 := (e_lfT t_90_0)
theorem hq_75 : (e_ml[75]?).map (·.2.1) = some prog_16_method_1_code := rfl
theorem ho_75 : (e_ml[75]?).map (·.1.cls) = some "PlateroomprinterModel$Item" := rfl
theorem hr_75 : (e_ml[75]?).map (·.2.2.2) = some none := rfl
noncomputable def n_75_19 : e_Y := u_tab (o_retv)
theorem t_75_19 : e_Sn 75 19 (e_un n_75_19) := u_tabT (s_vret hq_75 hr_75 (by decide +kernel) : e_Sn 75 19 (o_retv))
noncomputable def n_75_16 : e_Y := u_old (o_putf (e_f1 13 2) e_okR 19) n_75_19
theorem t_75_16 : e_Sn 75 16 (e_un n_75_16) := u_oldT (s_putf (ty0 := ey_13) (ok := e_okR) (C := er_13) (T := et_13) (N := 3) (ref := "PlateroomprinterModel$Item") (index := 16) (ci := 13) (k := 2) hq_75 ho_75 ⟨rfl, by decide, ei_13, (List.mem_of_getElem? (i := 2240) (by decide +kernel)), .inl rfl⟩ eo_13 en_13 e_oksR (.inr ⟨rfl, rfl, rfl⟩) (by decide +kernel) rfl : e_Sn 75 16 (o_putf (e_f1 13 2) e_okR 19)) t_75_19 (e_cg_putf (e_f1 13 2) e_okR)
noncomputable def n_75_15 : e_Y := u_ld f_okA f_l3 n_75_16
theorem t_75_15 : e_Sn 75 15 (e_un n_75_15) := u_ldAT f_l3_eq (s_aload (i := .aload_n 3) (len := 1) hq_75 (by decide +kernel) rfl (.inr ⟨3, rfl, rfl, rfl⟩) : e_Sn 75 15 (o_load e_okR 3 16)) t_75_16
noncomputable def n_75_14 : e_Y := u_ld f_okA f_l0 n_75_15
theorem t_75_14 : e_Sn 75 14 (e_un n_75_14) := u_ldAT f_l0_eq (s_aload (i := .aload_n 0) (len := 1) hq_75 (by decide +kernel) rfl (.inr ⟨0, rfl, rfl, rfl⟩) : e_Sn 75 14 (o_load e_okR 0 15)) t_75_15
noncomputable def n_75_11 : e_Y := u_old (o_putf (e_f1 13 1) e_okI 14) n_75_14
theorem t_75_11 : e_Sn 75 11 (e_un n_75_11) := u_oldT (s_putf (ty0 := ey_13) (ok := e_okI) (C := er_13) (T := et_13) (N := 3) (ref := "PlateroomprinterModel$Item") (index := 13) (ci := 13) (k := 1) hq_75 ho_75 ⟨rfl, by decide, ei_13, (List.mem_of_getElem? (i := 2238) (by decide +kernel)), .inl rfl⟩ eo_13 en_13 e_oksI (.inr ⟨rfl, rfl, rfl⟩) (by decide +kernel) rfl : e_Sn 75 11 (o_putf (e_f1 13 1) e_okI 14)) t_75_14 (e_cg_putf (e_f1 13 1) e_okI)
noncomputable def n_75_10 : e_Y := u_ld f_okI f_l2 n_75_11
theorem t_75_10 : e_Sn 75 10 (e_un n_75_10) := u_ldIT f_l2_eq (s_iload (i := .iload_n 2) (len := 1) hq_75 (by decide +kernel) rfl (.inr ⟨2, rfl, rfl, rfl⟩) : e_Sn 75 10 (o_load e_okI 2 11)) t_75_11
noncomputable def n_75_9 : e_Y := u_ld f_okA f_l0 n_75_10
theorem t_75_9 : e_Sn 75 9 (e_un n_75_9) := u_ldAT f_l0_eq (s_aload (i := .aload_n 0) (len := 1) hq_75 (by decide +kernel) rfl (.inr ⟨0, rfl, rfl, rfl⟩) : e_Sn 75 9 (o_load e_okR 0 10)) t_75_10
noncomputable def n_75_6 : e_Y := u_old (o_putf (e_f1 13 0) e_okI 9) n_75_9
theorem t_75_6 : e_Sn 75 6 (e_un n_75_6) := u_oldT (s_putf (ty0 := ey_13) (ok := e_okI) (C := er_13) (T := et_13) (N := 3) (ref := "PlateroomprinterModel$Item") (index := 7) (ci := 13) (k := 0) hq_75 ho_75 ⟨rfl, by decide, ei_13, (List.mem_of_getElem? (i := 2236) (by decide +kernel)), .inl rfl⟩ eo_13 en_13 e_oksI (.inr ⟨rfl, rfl, rfl⟩) (by decide +kernel) rfl : e_Sn 75 6 (o_putf (e_f1 13 0) e_okI 9)) t_75_9 (e_cg_putf (e_f1 13 0) e_okI)
noncomputable def n_75_5 : e_Y := u_ld f_okI f_l1 n_75_6
theorem t_75_5 : e_Sn 75 5 (e_un n_75_5) := u_ldIT f_l1_eq (s_iload (i := .iload_n 1) (len := 1) hq_75 (by decide +kernel) rfl (.inr ⟨1, rfl, rfl, rfl⟩) : e_Sn 75 5 (o_load e_okI 1 6)) t_75_6
noncomputable def n_75_4 : e_Y := u_ld f_okA f_l0 n_75_5
theorem t_75_4 : e_Sn 75 4 (e_un n_75_4) := u_ldAT f_l0_eq (s_aload (i := .aload_n 0) (len := 1) hq_75 (by decide +kernel) rfl (.inr ⟨0, rfl, rfl, rfl⟩) : e_Sn 75 4 (o_load e_okR 0 5)) t_75_5
noncomputable def n_75_1 : e_Y := u_tab (o_oinit 4)
theorem t_75_1 : e_Sn 75 1 (e_un n_75_1) := u_tabT (s_oinit (idx := 1) hq_75 ho_75 (List.mem_of_getElem? (i := 2235) (by decide +kernel)) (List.mem_of_getElem? (i := 190) (by decide +kernel)) (List.mem_of_getElem? (i := 191) (by decide +kernel)) (by decide +kernel) rfl : e_Sn 75 1 (o_oinit 4))
noncomputable def n_75_0 : e_Y := u_ld f_okA f_l0 n_75_1
theorem t_75_0 : e_Sn 75 0 (e_un n_75_0) := u_ldAT f_l0_eq (s_aload (i := .aload_n 0) (len := 1) hq_75 (by decide +kernel) rfl (.inr ⟨0, rfl, rfl, rfl⟩) : e_Sn 75 0 (o_load e_okR 0 1)) t_75_1
noncomputable def e_tb_75 : e_X := (e_br 4 (e_lf 0 (e_un n_75_0)) (e_lf 4 (e_un n_75_4)))
theorem e_tk_75 : e_Tb 75 e_tb_75 := (e_brT (e_lfT t_75_0) (e_lfT t_75_4))
theorem hq_93 : (e_ml[93]?).map (·.2.1) = some prog_20_method_16_code := rfl
theorem ho_93 : (e_ml[93]?).map (·.1.cls) = some "PlateroomprinterModel$Run" := rfl
theorem hr_93 : (e_ml[93]?).map (·.2.2.2) = some (some (.object "PlateroomprinterModel$Item")) := rfl
noncomputable def n_93_103 : e_Y := (u_at 10)
theorem t_93_103 : e_Sn 93 103 (e_un n_93_103) := u_gotoT (s_goto (off := (-93)) hq_93 (by decide +kernel) rfl : e_Sn 93 103 (o_goto 10)) u_atT
noncomputable def n_93_102 : e_Y := u_pop n_93_103
theorem t_93_102 : e_Sn 93 102 (e_un n_93_102) := u_popT (s_pop hq_93 (by decide +kernel) rfl : e_Sn 93 102 (o_pop 103)) t_93_103
noncomputable def n_93_99 : e_Y := u_callV 19 107 2 21 2 n_107_0 n_93_102
theorem t_93_99 : e_Sn 93 99 (e_un n_93_99) := u_callVT rfl (s_callV (ci := 19) (C := er_19) (T := et_19) (N := 3) (index := 34) hq_93 ho_93 hy_107 hp_107 hc_107 hi_107 hd_107 (List.mem_of_getElem? (i := 2149) (by decide +kernel)) hs_107 (List.mem_of_getElem? (i := 1822) (by decide +kernel)) rfl (by decide +kernel) rfl : e_Sn 93 99 (o_callV (e_s1 19 107 2) 2 102)) t_107_0 t_93_102
noncomputable def n_93_97 : e_Y := u_ld f_okA f_l4 n_93_99
theorem t_93_97 : e_Sn 93 97 (e_un n_93_97) := u_ldAT f_l4_eq (s_aload (i := .aload 4) (len := 2) hq_93 (by decide +kernel) rfl (.inl ⟨rfl, rfl⟩) : e_Sn 93 97 (o_load e_okR 4 99)) t_93_99
noncomputable def n_93_96 : e_Y := u_ld f_okA f_l2 n_93_97
theorem t_93_96 : e_Sn 93 96 (e_un n_93_96) := u_ldAT f_l2_eq (s_aload (i := .aload_n 2) (len := 1) hq_93 (by decide +kernel) rfl (.inr ⟨2, rfl, rfl, rfl⟩) : e_Sn 93 96 (o_load e_okR 2 97)) t_93_97
noncomputable def n_93_95 : e_Y := u_retA
theorem t_93_95 : e_Sn 93 95 (e_un n_93_95) := u_retAT (s_aret (.inl ⟨_, rfl⟩) hq_93 hr_93 (by decide +kernel) : e_Sn 93 95 (o_ret e_okR))
noncomputable def n_93_92 : e_Y := u_tab (o_callI 75 4 4 95)
theorem t_93_92 : e_Sn 93 92 (e_un n_93_92) := u_tabT (s_callI (index := 135) hq_93 ho_93 hy_75 hp_75 hc_75 hi_75 hd_75 (List.mem_of_getElem? (i := 2232) (by decide +kernel)) rfl rfl hs_75 (by decide +kernel) rfl : e_Sn 93 92 (o_callI 75 4 4 95))
noncomputable def n_93_91 : e_Y := u_ld f_okA f_l2 n_93_92
theorem t_93_91 : e_Sn 93 91 (e_un n_93_91) := u_ldAT f_l2_eq (s_aload (i := .aload_n 2) (len := 1) hq_93 (by decide +kernel) rfl (.inr ⟨2, rfl, rfl, rfl⟩) : e_Sn 93 91 (o_load e_okR 2 92)) t_93_92
noncomputable def n_93_90 : e_Y := u_push (.inl 2147483648) n_93_91
theorem t_93_90 : e_Sn 93 90 (e_un n_93_90) := u_pushT (s_iconst (n := (0)) hq_93 (by decide +kernel) rfl ⟨by decide +kernel, by decide +kernel⟩ : e_Sn 93 90 (o_push (.inl 2147483648) 91)) t_93_91
noncomputable def n_93_89 : e_Y := u_push (.inl 2147483650) n_93_90
theorem t_93_89 : e_Sn 93 89 (e_un n_93_89) := u_pushT (s_iconst (n := (2)) hq_93 (by decide +kernel) rfl ⟨by decide +kernel, by decide +kernel⟩ : e_Sn 93 89 (o_push (.inl 2147483650) 90)) t_93_90
noncomputable def n_93_88 : e_Y := u_old (o_dup 89) n_93_89
theorem t_93_88 : e_Sn 93 88 (e_un n_93_88) := u_oldT (s_dup hq_93 (by decide +kernel) rfl : e_Sn 93 88 (o_dup 89)) t_93_89 e_cg_dup
noncomputable def n_93_85 : e_Y := u_tab (o_new 13 3 ef_13 88)
theorem t_93_85 : e_Sn 93 85 (e_un n_93_85) := u_tabT (s_new (index := 133) (ci := 13) (N := 3) (C := er_13) (T := et_13) (ty0 := ey_13) (fv := eg_13) hq_93 ho_93 rfl ei_13 eo_13 (List.mem_of_getElem? (i := 2230) (by decide +kernel)) (List.mem_of_getElem? (i := 2231) (by decide +kernel)) (List.mem_of_getElem? (i := 173) (by decide +kernel)) eh_13 rfl (e_newrel ek_13) (by decide +kernel) rfl : e_Sn 93 85 (o_new 13 3 ef_13 88))
noncomputable def n_93_82 : e_Y := u_if y_ne0 (u_old2 (o_ifeq 85 96) 85 n_93_85 n_93_96) n_93_85 n_93_96
theorem t_93_82 : e_Sn 93 82 (e_un n_93_82) := u_ifeqT rfl (s_ifne (off := (14)) hq_93 (by decide +kernel) rfl rfl : e_Sn 93 82 (o_ifeq 85 96)) t_93_85 t_93_96
noncomputable def n_93_81 : e_Y := u_ld f_okI f_l3 n_93_82
theorem t_93_81 : e_Sn 93 81 (e_un n_93_81) := u_ldIT f_l3_eq (s_iload (i := .iload_n 3) (len := 1) hq_93 (by decide +kernel) rfl (.inr ⟨3, rfl, rfl, rfl⟩) : e_Sn 93 81 (o_load e_okI 3 82)) t_93_82
noncomputable def n_93_80 : e_Y := u_st f_okI f_s3 n_93_81
theorem t_93_80 : e_Sn 93 80 (e_un n_93_80) := u_stIT (fun _ _ _ => f_s3_eq) (s_istore (i := .istore_n 3) (len := 1) hq_93 (by decide +kernel) rfl (.inr ⟨3, rfl, rfl, rfl⟩) : e_Sn 93 80 (o_store e_okI 3 81)) t_93_81
noncomputable def n_93_79 : e_Y := u_bin a_iadd (u_old (o_iadd 80) n_93_80) n_93_80
theorem t_93_79 : e_Sn 93 79 (e_un n_93_79) := u_iaddT (s_iadd hq_93 (by decide +kernel) rfl : e_Sn 93 79 (o_iadd 80)) t_93_80
noncomputable def n_93_78 : e_Y := u_push (.inl 2147483648) n_93_79
theorem t_93_78 : e_Sn 93 78 (e_un n_93_78) := u_pushT (s_iconst (n := (0)) hq_93 (by decide +kernel) rfl ⟨by decide +kernel, by decide +kernel⟩ : e_Sn 93 78 (o_push (.inl 2147483648) 79)) t_93_79
noncomputable def n_93_75 : e_Y := n_93_79
theorem t_93_75 : e_Sn 93 75 (e_un n_93_75) := u_gotoT (s_goto (off := (4)) hq_93 (by decide +kernel) rfl : e_Sn 93 75 (o_goto 79)) t_93_79
noncomputable def n_93_74 : e_Y := u_push (.inl 2147483647) n_93_75
theorem t_93_74 : e_Sn 93 74 (e_un n_93_74) := u_pushT (s_iconst (n := (-1)) hq_93 (by decide +kernel) rfl ⟨by decide +kernel, by decide +kernel⟩ : e_Sn 93 74 (o_push (.inl 2147483647) 75)) t_93_75
noncomputable def n_93_71 : e_Y := u_jmp y_ne (u_old2 (o_ceq 74 78) 74 n_93_74 n_93_78) n_93_74 n_93_78
theorem t_93_71 : e_Sn 93 71 (e_un n_93_71) := u_ceqT rfl (s_cne (off := (7)) hq_93 (by decide +kernel) rfl rfl : e_Sn 93 71 (o_ceq 74 78)) t_93_74 t_93_78
noncomputable def n_93_70 : e_Y := u_push (.inl 2147483653) n_93_71
theorem t_93_70 : e_Sn 93 70 (e_un n_93_70) := u_pushT (s_iconst (n := (5)) hq_93 (by decide +kernel) rfl ⟨by decide +kernel, by decide +kernel⟩ : e_Sn 93 70 (o_push (.inl 2147483653) 71)) t_93_71
noncomputable def n_93_69 : e_Y := u_ald 0 (u_old (o_ald e_fcs 70) n_93_70) n_93_70
theorem t_93_69 : e_Sn 93 69 (e_un n_93_69) := u_aldT (s_iald hq_93 (by decide +kernel) rfl : e_Sn 93 69 (o_ald e_fcs 70)) t_93_70
noncomputable def n_93_68 : e_Y := u_push (.inl 2147483648) n_93_69
theorem t_93_68 : e_Sn 93 68 (e_un n_93_68) := u_pushT (s_iconst (n := (0)) hq_93 (by decide +kernel) rfl ⟨by decide +kernel, by decide +kernel⟩ : e_Sn 93 68 (o_push (.inl 2147483648) 69)) t_93_69
noncomputable def n_93_66 : e_Y := u_ld f_okA f_l4 n_93_68
theorem t_93_66 : e_Sn 93 66 (e_un n_93_66) := u_ldAT f_l4_eq (s_aload (i := .aload 4) (len := 2) hq_93 (by decide +kernel) rfl (.inl ⟨rfl, rfl⟩) : e_Sn 93 66 (o_load e_okR 4 68)) t_93_68
noncomputable def n_93_63 : e_Y := n_93_79
theorem t_93_63 : e_Sn 93 63 (e_un n_93_63) := u_gotoT (s_goto (off := (16)) hq_93 (by decide +kernel) rfl : e_Sn 93 63 (o_goto 79)) t_93_79
noncomputable def n_93_62 : e_Y := u_push (.inl 2147483649) n_93_63
theorem t_93_62 : e_Sn 93 62 (e_un n_93_62) := u_pushT (s_iconst (n := (1)) hq_93 (by decide +kernel) rfl ⟨by decide +kernel, by decide +kernel⟩ : e_Sn 93 62 (o_push (.inl 2147483649) 63)) t_93_63
noncomputable def n_93_59 : e_Y := u_jmp y_ne (u_old2 (o_ceq 62 66) 62 n_93_62 n_93_66) n_93_62 n_93_66
theorem t_93_59 : e_Sn 93 59 (e_un n_93_59) := u_ceqT rfl (s_cne (off := (7)) hq_93 (by decide +kernel) rfl rfl : e_Sn 93 59 (o_ceq 62 66)) t_93_62 t_93_66
noncomputable def n_93_58 : e_Y := u_push (.inl 2147483652) n_93_59
theorem t_93_58 : e_Sn 93 58 (e_un n_93_58) := u_pushT (s_iconst (n := (4)) hq_93 (by decide +kernel) rfl ⟨by decide +kernel, by decide +kernel⟩ : e_Sn 93 58 (o_push (.inl 2147483652) 59)) t_93_59
noncomputable def n_93_57 : e_Y := u_ald 0 (u_old (o_ald e_fcs 58) n_93_58) n_93_58
theorem t_93_57 : e_Sn 93 57 (e_un n_93_57) := u_aldT (s_iald hq_93 (by decide +kernel) rfl : e_Sn 93 57 (o_ald e_fcs 58)) t_93_58
noncomputable def n_93_56 : e_Y := u_push (.inl 2147483648) n_93_57
theorem t_93_56 : e_Sn 93 56 (e_un n_93_56) := u_pushT (s_iconst (n := (0)) hq_93 (by decide +kernel) rfl ⟨by decide +kernel, by decide +kernel⟩ : e_Sn 93 56 (o_push (.inl 2147483648) 57)) t_93_57
noncomputable def n_93_54 : e_Y := u_ld f_okA f_l4 n_93_56
theorem t_93_54 : e_Sn 93 54 (e_un n_93_54) := u_ldAT f_l4_eq (s_aload (i := .aload 4) (len := 2) hq_93 (by decide +kernel) rfl (.inl ⟨rfl, rfl⟩) : e_Sn 93 54 (o_load e_okR 4 56)) t_93_56
noncomputable def n_93_53 : e_Y := u_ld f_okI f_l3 n_93_54
theorem t_93_53 : e_Sn 93 53 (e_un n_93_53) := u_ldIT f_l3_eq (s_iload (i := .iload_n 3) (len := 1) hq_93 (by decide +kernel) rfl (.inr ⟨3, rfl, rfl, rfl⟩) : e_Sn 93 53 (o_load e_okI 3 54)) t_93_54
noncomputable def n_93_50 : e_Y := u_old (o_putf (e_f1 15 1) e_okI 53) n_93_53
theorem t_93_50 : e_Sn 93 50 (e_un n_93_50) := u_oldT (s_putf (ty0 := ey_15) (ok := e_okI) (C := er_15) (T := et_15) (N := 8) (ref := "PlateroomprinterModel$Row") (index := 50) (ci := 15) (k := 1) hq_93 ho_93 ⟨rfl, by decide, ei_15, (List.mem_of_getElem? (i := 2125) (by decide +kernel)), .inl rfl⟩ eo_15 en_15 e_oksI (.inl rfl) (by decide +kernel) rfl : e_Sn 93 50 (o_putf (e_f1 15 1) e_okI 53)) t_93_53 (e_cg_putf (e_f1 15 1) e_okI)
noncomputable def n_93_49 : e_Y := u_bin a_iadd (u_old (o_iadd 50) n_93_50) n_93_50
theorem t_93_49 : e_Sn 93 49 (e_un n_93_49) := u_iaddT (s_iadd hq_93 (by decide +kernel) rfl : e_Sn 93 49 (o_iadd 50)) t_93_50
noncomputable def n_93_48 : e_Y := u_push (.inl 2147483649) n_93_49
theorem t_93_48 : e_Sn 93 48 (e_un n_93_48) := u_pushT (s_iconst (n := (1)) hq_93 (by decide +kernel) rfl ⟨by decide +kernel, by decide +kernel⟩ : e_Sn 93 48 (o_push (.inl 2147483649) 49)) t_93_49
noncomputable def n_93_45 : e_Y := u_getf 15 1 (u_old (o_getf (e_f1 15 1) 48) n_93_48) n_93_48
theorem t_93_45 : e_Sn 93 45 (e_un n_93_45) := u_getfT (s_getf (C := er_15) (T := et_15) (N := 8) (ref := "PlateroomprinterModel$Row") (index := 50) (ci := 15) (k := 1) hq_93 ho_93 ⟨rfl, by decide, ei_15, (List.mem_of_getElem? (i := 2125) (by decide +kernel)), .inl rfl⟩ (by decide +kernel) rfl : e_Sn 93 45 (o_getf (e_f1 15 1) 48)) t_93_48
noncomputable def n_93_44 : e_Y := u_old (o_dup 45) n_93_45
theorem t_93_44 : e_Sn 93 44 (e_un n_93_44) := u_oldT (s_dup hq_93 (by decide +kernel) rfl : e_Sn 93 44 (o_dup 45)) t_93_45 e_cg_dup
noncomputable def n_93_43 : e_Y := u_ld f_okA f_l1 n_93_44
theorem t_93_43 : e_Sn 93 43 (e_un n_93_43) := u_ldAT f_l1_eq (s_aload (i := .aload_n 1) (len := 1) hq_93 (by decide +kernel) rfl (.inr ⟨1, rfl, rfl, rfl⟩) : e_Sn 93 43 (o_load e_okR 1 44)) t_93_44
noncomputable def n_93_41 : e_Y := u_st f_okA f_s4 n_93_43
theorem t_93_41 : e_Sn 93 41 (e_un n_93_41) := u_stAT (fun _ _ _ => f_s4_eq) (s_astore (i := .astore 4) (len := 2) hq_93 (by decide +kernel) rfl (.inl ⟨rfl, rfl⟩) : e_Sn 93 41 (o_store e_okR 4 43)) t_93_43
noncomputable def n_93_38 : e_Y := u_old (o_cast 100 41) n_93_41
theorem t_93_38 : e_Sn 93 38 (e_un n_93_38) := u_oldT (s_cast (index := 63) hq_93 ho_93 (List.mem_of_getElem? (i := 2254) (by decide +kernel)) (.inr ⟨rfl, rfl⟩) (by decide +kernel) rfl : e_Sn 93 38 (o_cast 100 41)) t_93_41 (e_cg_cast 100)
noncomputable def n_93_35 : e_Y := u_callV 19 111 2 21 2 n_111_0 n_93_38
theorem t_93_35 : e_Sn 93 35 (e_un n_93_35) := u_callVT rfl (s_callV (ci := 19) (C := er_19) (T := et_19) (N := 3) (index := 42) hq_93 ho_93 hy_111 hp_111 hc_111 hi_111 hd_111 (List.mem_of_getElem? (i := 2182) (by decide +kernel)) hs_111 (List.mem_of_getElem? (i := 2051) (by decide +kernel)) rfl (by decide +kernel) rfl : e_Sn 93 35 (o_callV (e_s1 19 111 2) 2 38)) t_111_0 t_93_38
noncomputable def n_93_32 : e_Y := u_getf 15 1 (u_old (o_getf (e_f1 15 1) 35) n_93_35) n_93_35
theorem t_93_32 : e_Sn 93 32 (e_un n_93_32) := u_getfT (s_getf (C := er_15) (T := et_15) (N := 8) (ref := "PlateroomprinterModel$Row") (index := 50) (ci := 15) (k := 1) hq_93 ho_93 ⟨rfl, by decide, ei_15, (List.mem_of_getElem? (i := 2125) (by decide +kernel)), .inl rfl⟩ (by decide +kernel) rfl : e_Sn 93 32 (o_getf (e_f1 15 1) 35)) t_93_35
noncomputable def n_93_31 : e_Y := u_ld f_okA f_l1 n_93_32
theorem t_93_31 : e_Sn 93 31 (e_un n_93_31) := u_ldAT f_l1_eq (s_aload (i := .aload_n 1) (len := 1) hq_93 (by decide +kernel) rfl (.inr ⟨1, rfl, rfl, rfl⟩) : e_Sn 93 31 (o_load e_okR 1 32)) t_93_32
noncomputable def n_93_28 : e_Y := u_getf 15 0 (u_old (o_getf (e_f1 15 0) 31) n_93_31) n_93_31
theorem t_93_28 : e_Sn 93 28 (e_un n_93_28) := u_getfT (s_getf (C := er_15) (T := et_15) (N := 8) (ref := "PlateroomprinterModel$Row") (index := 60) (ci := 15) (k := 0) hq_93 ho_93 ⟨rfl, by decide, ei_15, (List.mem_of_getElem? (i := 2123) (by decide +kernel)), .inl rfl⟩ (by decide +kernel) rfl : e_Sn 93 28 (o_getf (e_f1 15 0) 31)) t_93_31
noncomputable def n_93_27 : e_Y := u_ld f_okA f_l1 n_93_28
theorem t_93_27 : e_Sn 93 27 (e_un n_93_27) := u_ldAT f_l1_eq (s_aload (i := .aload_n 1) (len := 1) hq_93 (by decide +kernel) rfl (.inr ⟨1, rfl, rfl, rfl⟩) : e_Sn 93 27 (o_load e_okR 1 28)) t_93_28
noncomputable def n_93_24 : e_Y := u_callS 68 2 21 2 n_68_0 n_93_27
theorem t_93_24 : e_Sn 93 24 (e_un n_93_24) := u_callST rfl (s_callSN (host := "PlateroomprinterModel") (index := 73) hq_93 ho_93 hy_68 hp_68 hc_68 hi_68 hd_68 (List.mem_of_getElem? (i := 2203) (by decide +kernel)) hs_68 (by decide +kernel) rfl : e_Sn 93 24 (o_callS 68 2 2 27)) t_68_0 t_93_27
noncomputable def n_93_22 : e_Y := u_push (.inl 2147483654) n_93_24
theorem t_93_22 : e_Sn 93 22 (e_un n_93_22) := u_pushT (s_bipush (n := (6)) hq_93 (by decide +kernel) rfl ⟨by decide +kernel, by decide +kernel⟩ : e_Sn 93 22 (o_push (.inl 2147483654) 24)) t_93_24
noncomputable def n_93_18 : e_Y := n_93_22
theorem t_93_18 : e_Sn 93 18 (e_un n_93_18) := u_gotoT (s_goto (off := (4)) hq_93 (by decide +kernel) rfl : e_Sn 93 18 (o_goto 22)) t_93_22
noncomputable def n_93_17 : e_Y := u_push (.inl 2147483649) n_93_18
theorem t_93_17 : e_Sn 93 17 (e_un n_93_17) := u_pushT (s_iconst (n := (1)) hq_93 (by decide +kernel) rfl ⟨by decide +kernel, by decide +kernel⟩ : e_Sn 93 17 (o_push (.inl 2147483649) 18)) t_93_18
noncomputable def n_93_14 : e_Y := u_if y_ne0 (u_old2 (o_ifeq 17 21) 17 n_93_17 (u_at 21)) n_93_17 (u_at 21)
theorem t_93_14 : e_Sn 93 14 (e_un n_93_14) := u_ifeqT rfl (s_ifne (off := (7)) hq_93 (by decide +kernel) rfl rfl : e_Sn 93 14 (o_ifeq 17 21)) t_93_17 u_atT
noncomputable def n_93_11 : e_Y := u_callV 15 79 1 20 1 n_79_0 n_93_14
theorem t_93_11 : e_Sn 93 11 (e_un n_93_11) := u_callVT rfl (s_callV (ci := 15) (C := er_15) (T := et_15) (N := 8) (index := 84) hq_93 ho_93 hy_79 hp_79 hc_79 hi_79 hd_79 (List.mem_of_getElem? (i := 2183) (by decide +kernel)) hs_79 (List.mem_of_getElem? (i := 2185) (by decide +kernel)) rfl (by decide +kernel) rfl : e_Sn 93 11 (o_callV (e_s1 15 79 1) 1 14)) t_79_0 t_93_14
noncomputable def n_93_10 : e_Y := u_ld f_okA f_l1 n_93_11
theorem t_93_10 : e_Sn 93 10 (e_un n_93_10) := u_ldAT f_l1_eq (s_aload (i := .aload_n 1) (len := 1) hq_93 (by decide +kernel) rfl (.inr ⟨1, rfl, rfl, rfl⟩) : e_Sn 93 10 (o_load e_okR 1 11)) t_93_11
noncomputable def n_93_9 : e_Y := u_st f_okI f_s3 n_93_10
theorem t_93_9 : e_Sn 93 9 (e_un n_93_9) := u_stIT (fun _ _ _ => f_s3_eq) (s_istore (i := .istore_n 3) (len := 1) hq_93 (by decide +kernel) rfl (.inr ⟨3, rfl, rfl, rfl⟩) : e_Sn 93 9 (o_store e_okI 3 10)) t_93_10
noncomputable def n_93_8 : e_Y := u_push (.inl 2147483649) n_93_9
theorem t_93_8 : e_Sn 93 8 (e_un n_93_8) := u_pushT (s_iconst (n := (1)) hq_93 (by decide +kernel) rfl ⟨by decide +kernel, by decide +kernel⟩ : e_Sn 93 8 (o_push (.inl 2147483649) 9)) t_93_9
noncomputable def n_93_7 : e_Y := u_st f_okA f_s2 n_93_8
theorem t_93_7 : e_Sn 93 7 (e_un n_93_7) := u_stAT (fun _ _ _ => f_s2_eq) (s_astore (i := .astore_n 2) (len := 1) hq_93 (by decide +kernel) rfl (.inr ⟨2, rfl, rfl, rfl⟩) : e_Sn 93 7 (o_store e_okR 2 8)) t_93_8
noncomputable def n_93_4 : e_Y := u_tab (o_callI 106 1 1 7)
theorem t_93_4 : e_Sn 93 4 (e_un n_93_4) := u_tabT (s_callI (index := 11) hq_93 ho_93 hy_106 hp_106 hc_106 hi_106 hd_106 (List.mem_of_getElem? (i := 2115) (by decide +kernel)) rfl rfl hs_106 (by decide +kernel) rfl : e_Sn 93 4 (o_callI 106 1 1 7))
noncomputable def n_93_3 : e_Y := u_old (o_dup 4) n_93_4
theorem t_93_3 : e_Sn 93 3 (e_un n_93_3) := u_oldT (s_dup hq_93 (by decide +kernel) rfl : e_Sn 93 3 (o_dup 4)) t_93_4 e_cg_dup
noncomputable def n_93_0 : e_Y := u_tab (o_new 19 3 ef_19 3)
theorem t_93_0 : e_Sn 93 0 (e_un n_93_0) := u_tabT (s_new (index := 9) (ci := 19) (N := 3) (C := er_19) (T := et_19) (ty0 := ey_19) (fv := eg_19) hq_93 ho_93 rfl ei_19 eo_19 (List.mem_of_getElem? (i := 2114) (by decide +kernel)) (List.mem_of_getElem? (i := 1751) (by decide +kernel)) (List.mem_of_getElem? (i := 155) (by decide +kernel)) eh_19 rfl (e_newrel ek_19) (by decide +kernel) rfl : e_Sn 93 0 (o_new 19 3 ef_19 3))
noncomputable def e_tb_93 : e_X := (e_br 10 (e_br 3 (e_lf 0 (e_un n_93_0)) (e_br 7 (e_lf 3 (e_un n_93_3)) (e_lf 7 (e_un n_93_7)))) (e_br 88 (e_lf 10 (e_un n_93_10)) (e_br 95 (e_lf 88 (e_un n_93_88)) (e_lf 95 (e_un n_93_95)))))
theorem e_tk_93 : e_Tb 93 e_tb_93 := (e_brT (e_brT (e_lfT t_93_0) (e_brT (e_lfT t_93_3) (e_lfT t_93_7))) (e_brT (e_lfT t_93_10) (e_brT (e_lfT t_93_88) (e_lfT t_93_95))))
theorem hq_95 : (e_ml[95]?).map (·.2.1) = some prog_20_method_8_code := rfl
theorem ho_95 : (e_ml[95]?).map (·.1.cls) = some "PlateroomprinterModel$Run" := rfl
theorem hr_95 : (e_ml[95]?).map (·.2.2.2) = some none := rfl
noncomputable def n_95_37 : e_Y := u_tab (o_retv)
theorem t_95_37 : e_Sn 95 37 (e_un n_95_37) := u_tabT (s_vret hq_95 hr_95 (by decide +kernel) : e_Sn 95 37 (o_retv))
noncomputable def n_95_36 : e_Y := u_pop n_95_37
theorem t_95_36 : e_Sn 95 36 (e_un n_95_36) := u_popT (s_pop hq_95 (by decide +kernel) rfl : e_Sn 95 36 (o_pop 37)) t_95_37
noncomputable def n_95_33 : e_Y := u_callV 19 107 2 21 2 n_107_0 n_95_36
theorem t_95_33 : e_Sn 95 33 (e_un n_95_33) := u_callVT rfl (s_callV (ci := 19) (C := er_19) (T := et_19) (N := 3) (index := 34) hq_95 ho_95 hy_107 hp_107 hc_107 hi_107 hd_107 (List.mem_of_getElem? (i := 2149) (by decide +kernel)) hs_107 (List.mem_of_getElem? (i := 1822) (by decide +kernel)) rfl (by decide +kernel) rfl : e_Sn 95 33 (o_callV (e_s1 19 107 2) 2 36)) t_107_0 t_95_36
noncomputable def n_95_32 : e_Y := u_ld f_okA f_l1 n_95_33
theorem t_95_32 : e_Sn 95 32 (e_un n_95_32) := u_ldAT f_l1_eq (s_aload (i := .aload_n 1) (len := 1) hq_95 (by decide +kernel) rfl (.inr ⟨1, rfl, rfl, rfl⟩) : e_Sn 95 32 (o_load e_okR 1 33)) t_95_33
noncomputable def n_95_29 : e_Y := u_getf 14 0 (u_old (o_getf (e_f1 14 0) 32) n_95_32) n_95_32
theorem t_95_29 : e_Sn 95 29 (e_un n_95_29) := u_getfT (s_getf (C := er_14) (T := et_14) (N := 13) (ref := "PlateroomprinterModel$Machine") (index := 122) (ci := 14) (k := 0) hq_95 ho_95 ⟨rfl, by decide, ei_14, (List.mem_of_getElem? (i := 1891) (by decide +kernel)), .inl rfl⟩ (by decide +kernel) rfl : e_Sn 95 29 (o_getf (e_f1 14 0) 32)) t_95_32
noncomputable def n_95_26 : e_Y := u_getf 16 0 (u_old (o_getf (e_f1 16 0) 29) n_95_29) n_95_29
theorem t_95_26 : e_Sn 95 26 (e_un n_95_26) := u_getfT (s_getf (C := er_16) (T := et_16) (N := 5) (ref := "PlateroomprinterModel$Run") (index := 25) (ci := 16) (k := 0) hq_95 ho_95 ⟨rfl, by decide, ei_16, (List.mem_of_getElem? (i := 2150) (by decide +kernel)), .inl rfl⟩ (by decide +kernel) rfl : e_Sn 95 26 (o_getf (e_f1 16 0) 29)) t_95_29
noncomputable def n_95_25 : e_Y := u_ld f_okA f_l0 n_95_26
theorem t_95_25 : e_Sn 95 25 (e_un n_95_25) := u_ldAT f_l0_eq (s_aload (i := .aload_n 0) (len := 1) hq_95 (by decide +kernel) rfl (.inr ⟨0, rfl, rfl, rfl⟩) : e_Sn 95 25 (o_load e_okR 0 26)) t_95_26
noncomputable def n_95_22 : e_Y := u_callS 68 2 21 2 n_68_0 n_95_25
theorem t_95_22 : e_Sn 95 22 (e_un n_95_22) := u_callST rfl (s_callSN (host := "PlateroomprinterModel") (index := 73) hq_95 ho_95 hy_68 hp_68 hc_68 hi_68 hd_68 (List.mem_of_getElem? (i := 2203) (by decide +kernel)) hs_68 (by decide +kernel) rfl : e_Sn 95 22 (o_callS 68 2 2 25)) t_68_0 t_95_25
noncomputable def n_95_20 : e_Y := u_push (.inl 2147483656) n_95_22
theorem t_95_20 : e_Sn 95 20 (e_un n_95_20) := u_pushT (s_bipush (n := (8)) hq_95 (by decide +kernel) rfl ⟨by decide +kernel, by decide +kernel⟩ : e_Sn 95 20 (o_push (.inl 2147483656) 22)) t_95_22
noncomputable def n_95_16 : e_Y := n_95_20
theorem t_95_16 : e_Sn 95 16 (e_un n_95_16) := u_gotoT (s_goto (off := (4)) hq_95 (by decide +kernel) rfl : e_Sn 95 16 (o_goto 20)) t_95_20
noncomputable def n_95_15 : e_Y := u_push (.inl 2147483649) n_95_16
theorem t_95_15 : e_Sn 95 15 (e_un n_95_15) := u_pushT (s_iconst (n := (1)) hq_95 (by decide +kernel) rfl ⟨by decide +kernel, by decide +kernel⟩ : e_Sn 95 15 (o_push (.inl 2147483649) 16)) t_95_16
noncomputable def n_95_12 : e_Y := u_jmp y_ge (u_old2 (o_clt 15 19) 15 n_95_15 (u_at 19)) n_95_15 (u_at 19)
theorem t_95_12 : e_Sn 95 12 (e_un n_95_12) := u_cltT rfl (s_cge (off := (7)) hq_95 (by decide +kernel) rfl rfl : e_Sn 95 12 (o_clt 15 19)) t_95_15 u_atT
noncomputable def n_95_10 : e_Y := u_push (.inl 2147483688) n_95_12
theorem t_95_10 : e_Sn 95 10 (e_un n_95_10) := u_pushT (s_bipush (n := (40)) hq_95 (by decide +kernel) rfl ⟨by decide +kernel, by decide +kernel⟩ : e_Sn 95 10 (o_push (.inl 2147483688) 12)) t_95_12
noncomputable def n_95_7 : e_Y := u_callV 19 117 1 20 1 n_117_0 n_95_10
theorem t_95_7 : e_Sn 95 7 (e_un n_95_7) := u_callVT rfl (s_callV (ci := 19) (C := er_19) (T := et_19) (N := 3) (index := 38) hq_95 ho_95 hy_117 hp_117 hc_117 hi_117 hd_117 (List.mem_of_getElem? (i := 2181) (by decide +kernel)) hs_117 (List.mem_of_getElem? (i := 2002) (by decide +kernel)) rfl (by decide +kernel) rfl : e_Sn 95 7 (o_callV (e_s1 19 117 1) 1 10)) t_117_0 t_95_10
noncomputable def n_95_4 : e_Y := u_getf 14 0 (u_old (o_getf (e_f1 14 0) 7) n_95_7) n_95_7
theorem t_95_4 : e_Sn 95 4 (e_un n_95_4) := u_getfT (s_getf (C := er_14) (T := et_14) (N := 13) (ref := "PlateroomprinterModel$Machine") (index := 122) (ci := 14) (k := 0) hq_95 ho_95 ⟨rfl, by decide, ei_14, (List.mem_of_getElem? (i := 1891) (by decide +kernel)), .inl rfl⟩ (by decide +kernel) rfl : e_Sn 95 4 (o_getf (e_f1 14 0) 7)) t_95_7
noncomputable def n_95_1 : e_Y := u_getf 16 0 (u_old (o_getf (e_f1 16 0) 4) n_95_4) n_95_4
theorem t_95_1 : e_Sn 95 1 (e_un n_95_1) := u_getfT (s_getf (C := er_16) (T := et_16) (N := 5) (ref := "PlateroomprinterModel$Run") (index := 25) (ci := 16) (k := 0) hq_95 ho_95 ⟨rfl, by decide, ei_16, (List.mem_of_getElem? (i := 2150) (by decide +kernel)), .inl rfl⟩ (by decide +kernel) rfl : e_Sn 95 1 (o_getf (e_f1 16 0) 4)) t_95_4
noncomputable def n_95_0 : e_Y := u_ld f_okA f_l0 n_95_1
theorem t_95_0 : e_Sn 95 0 (e_un n_95_0) := u_ldAT f_l0_eq (s_aload (i := .aload_n 0) (len := 1) hq_95 (by decide +kernel) rfl (.inr ⟨0, rfl, rfl, rfl⟩) : e_Sn 95 0 (o_load e_okR 0 1)) t_95_1
noncomputable def e_tb_95 : e_X := (e_lf 0 (e_un n_95_0))
theorem e_tk_95 : e_Tb 95 e_tb_95 := (e_lfT t_95_0)
theorem hq_94 : (e_ml[94]?).map (·.2.1) = some prog_20_method_9_code := rfl
theorem ho_94 : (e_ml[94]?).map (·.1.cls) = some "PlateroomprinterModel$Run" := rfl
theorem hr_94 : (e_ml[94]?).map (·.2.2.2) = some none := rfl
noncomputable def n_94_29 : e_Y := u_tab (o_retv)
theorem t_94_29 : e_Sn 94 29 (e_un n_94_29) := u_tabT (s_vret hq_94 hr_94 (by decide +kernel) : e_Sn 94 29 (o_retv))
noncomputable def n_94_26 : e_Y := u_callV 16 95 2 21 2 n_95_0 n_94_29
theorem t_94_26 : e_Sn 94 26 (e_un n_94_26) := u_callVT rfl (s_callV (ci := 16) (C := er_16) (T := et_16) (N := 5) (index := 138) hq_94 ho_94 hy_95 hp_95 hc_95 hi_95 hd_95 (List.mem_of_getElem? (i := 2249) (by decide +kernel)) hs_95 (List.mem_of_getElem? (i := 81) (by decide +kernel)) rfl (by decide +kernel) rfl : e_Sn 94 26 (o_callV (e_s1 16 95 2) 2 29)) t_95_0 t_94_29
noncomputable def n_94_23 : e_Y := u_tab (o_callI 75 4 4 26)
theorem t_94_23 : e_Sn 94 23 (e_un n_94_23) := u_tabT (s_callI (index := 135) hq_94 ho_94 hy_75 hp_75 hc_75 hi_75 hd_75 (List.mem_of_getElem? (i := 2232) (by decide +kernel)) rfl rfl hs_75 (by decide +kernel) rfl : e_Sn 94 23 (o_callI 75 4 4 26))
noncomputable def n_94_22 : e_Y := u_push e_N n_94_23
theorem t_94_22 : e_Sn 94 22 (e_un n_94_22) := u_pushT (s_null hq_94 (by decide +kernel) rfl : e_Sn 94 22 (o_push e_N 23)) t_94_23
noncomputable def n_94_21 : e_Y := u_old (o_l2i 22) n_94_22
theorem t_94_21 : e_Sn 94 21 (e_un n_94_21) := u_oldT (s_l2i hq_94 (by decide +kernel) rfl : e_Sn 94 21 (o_l2i 22)) t_94_22 e_cg_l2i
noncomputable def n_94_20 : e_Y := u_old (o_load e_okL 1 21) n_94_21
theorem t_94_20 : e_Sn 94 20 (e_un n_94_20) := u_oldT (s_lload (i := .lload_n 1) (len := 1) hq_94 (by decide +kernel) rfl (.inr ⟨1, rfl, rfl, rfl⟩) : e_Sn 94 20 (o_load e_okL 1 21)) t_94_21 e_congr_load
noncomputable def n_94_19 : e_Y := u_push (.inl 2147483648) n_94_20
theorem t_94_19 : e_Sn 94 19 (e_un n_94_19) := u_pushT (s_iconst (n := (0)) hq_94 (by decide +kernel) rfl ⟨by decide +kernel, by decide +kernel⟩ : e_Sn 94 19 (o_push (.inl 2147483648) 20)) t_94_20
noncomputable def n_94_18 : e_Y := u_old (o_dup 19) n_94_19
theorem t_94_18 : e_Sn 94 18 (e_un n_94_18) := u_oldT (s_dup hq_94 (by decide +kernel) rfl : e_Sn 94 18 (o_dup 19)) t_94_19 e_cg_dup
noncomputable def n_94_15 : e_Y := u_tab (o_new 13 3 ef_13 18)
theorem t_94_15 : e_Sn 94 15 (e_un n_94_15) := u_tabT (s_new (index := 133) (ci := 13) (N := 3) (C := er_13) (T := et_13) (ty0 := ey_13) (fv := eg_13) hq_94 ho_94 rfl ei_13 eo_13 (List.mem_of_getElem? (i := 2230) (by decide +kernel)) (List.mem_of_getElem? (i := 2231) (by decide +kernel)) (List.mem_of_getElem? (i := 173) (by decide +kernel)) eh_13 rfl (e_newrel ek_13) (by decide +kernel) rfl : e_Sn 94 15 (o_new 13 3 ef_13 18))
noncomputable def n_94_14 : e_Y := u_ld f_okA f_l0 n_94_15
theorem t_94_14 : e_Sn 94 14 (e_un n_94_14) := u_ldAT f_l0_eq (s_aload (i := .aload_n 0) (len := 1) hq_94 (by decide +kernel) rfl (.inr ⟨0, rfl, rfl, rfl⟩) : e_Sn 94 14 (o_load e_okR 0 15)) t_94_15
noncomputable def n_94_11 : e_Y := u_callS 68 2 21 2 n_68_0 n_94_14
theorem t_94_11 : e_Sn 94 11 (e_un n_94_11) := u_callST rfl (s_callSN (host := "PlateroomprinterModel") (index := 73) hq_94 ho_94 hy_68 hp_68 hc_68 hi_68 hd_68 (List.mem_of_getElem? (i := 2203) (by decide +kernel)) hs_68 (by decide +kernel) rfl : e_Sn 94 11 (o_callS 68 2 2 14)) t_68_0 t_94_14
noncomputable def n_94_10 : e_Y := u_push (.inl 2147483651) n_94_11
theorem t_94_10 : e_Sn 94 10 (e_un n_94_10) := u_pushT (s_iconst (n := (3)) hq_94 (by decide +kernel) rfl ⟨by decide +kernel, by decide +kernel⟩ : e_Sn 94 10 (o_push (.inl 2147483651) 11)) t_94_11
noncomputable def n_94_7 : e_Y := u_callS 66 6 25 3 n_66_0 n_94_10
theorem t_94_7 : e_Sn 94 7 (e_un n_94_7) := u_callST rfl (s_callSN (host := "PlateroomprinterModel") (index := 129) hq_94 ho_94 hy_66 hp_66 hc_66 hi_66 hd_66 (List.mem_of_getElem? (i := 2202) (by decide +kernel)) hs_66 (by decide +kernel) rfl : e_Sn 94 7 (o_callS 66 6 3 10)) t_66_0 t_94_10
noncomputable def n_94_4 : e_Y := u_push (e_L 9223372036854875807) n_94_7
theorem t_94_4 : e_Sn 94 4 (e_un n_94_4) := u_pushT (s_ldc2 (index := 127) (v := (99999)) hq_94 ho_94 (List.mem_of_getElem? (i := 2201) (by decide +kernel)) (by decide +kernel) rfl ⟨by decide +kernel, by decide +kernel⟩ : e_Sn 94 4 (o_push (e_L 9223372036854875807) 7)) t_94_7
noncomputable def n_94_1 : e_Y := u_push (e_L 9223372036854675809) n_94_4
theorem t_94_1 : e_Sn 94 1 (e_un n_94_1) := u_pushT (s_ldc2 (index := 125) (v := (-99999)) hq_94 ho_94 (List.mem_of_getElem? (i := 2200) (by decide +kernel)) (by decide +kernel) rfl ⟨by decide +kernel, by decide +kernel⟩ : e_Sn 94 1 (o_push (e_L 9223372036854675809) 4)) t_94_4
noncomputable def n_94_0 : e_Y := u_old (o_load e_okL 1 1) n_94_1
theorem t_94_0 : e_Sn 94 0 (e_un n_94_0) := u_oldT (s_lload (i := .lload_n 1) (len := 1) hq_94 (by decide +kernel) rfl (.inr ⟨1, rfl, rfl, rfl⟩) : e_Sn 94 0 (o_load e_okL 1 1)) t_94_1 e_congr_load
noncomputable def e_tb_94 : e_X := (e_br 18 (e_lf 0 (e_un n_94_0)) (e_br 26 (e_lf 18 (e_un n_94_18)) (e_lf 26 (e_un n_94_26))))
theorem e_tk_94 : e_Tb 94 e_tb_94 := (e_brT (e_lfT t_94_0) (e_brT (e_lfT t_94_18) (e_lfT t_94_26)))
theorem hq_98 : (e_ml[98]?).map (·.2.1) = some prog_20_method_14_code := rfl
theorem ho_98 : (e_ml[98]?).map (·.1.cls) = some "PlateroomprinterModel$Run" := rfl
theorem hr_98 : (e_ml[98]?).map (·.2.2.2) = some none := rfl
noncomputable def n_98_123 : e_Y := u_tab (o_retv)
theorem t_98_123 : e_Sn 98 123 (e_un n_98_123) := u_tabT (s_vret hq_98 hr_98 (by decide +kernel) : e_Sn 98 123 (o_retv))
noncomputable def n_98_110 : e_Y := n_98_123
theorem t_98_110 : e_Sn 98 110 (e_un n_98_110) := u_gotoT (s_goto (off := (13)) hq_98 (by decide +kernel) rfl : e_Sn 98 110 (o_goto 123)) t_98_123
noncomputable def n_98_107 : e_Y := u_callV 16 95 2 21 2 n_95_0 n_98_110
theorem t_98_107 : e_Sn 98 107 (e_un n_98_107) := u_callVT rfl (s_callV (ci := 16) (C := er_16) (T := et_16) (N := 5) (index := 138) hq_98 ho_98 hy_95 hp_95 hc_95 hi_95 hd_95 (List.mem_of_getElem? (i := 2249) (by decide +kernel)) hs_95 (List.mem_of_getElem? (i := 81) (by decide +kernel)) rfl (by decide +kernel) rfl : e_Sn 98 107 (o_callV (e_s1 16 95 2) 2 110)) t_95_0 t_98_110
noncomputable def n_98_104 : e_Y := u_callV 16 93 5 24 2 n_93_0 n_98_107
theorem t_98_104 : e_Sn 98 104 (e_un n_98_104) := u_callVT rfl (s_callV (ci := 16) (C := er_16) (T := et_16) (N := 5) (index := 169) hq_98 ho_98 hy_93 hp_93 hc_93 hi_93 hd_93 (List.mem_of_getElem? (i := 2885) (by decide +kernel)) hs_93 (List.mem_of_getElem? (i := 120) (by decide +kernel)) rfl (by decide +kernel) rfl : e_Sn 98 104 (o_callV (e_s1 16 93 5) 2 107)) t_93_0 t_98_107
noncomputable def n_98_103 : e_Y := u_ld f_okA f_l1 n_98_104
theorem t_98_103 : e_Sn 98 103 (e_un n_98_103) := u_ldAT f_l1_eq (s_aload (i := .aload_n 1) (len := 1) hq_98 (by decide +kernel) rfl (.inr ⟨1, rfl, rfl, rfl⟩) : e_Sn 98 103 (o_load e_okR 1 104)) t_98_104
noncomputable def n_98_102 : e_Y := u_ld f_okA f_l0 n_98_103
theorem t_98_102 : e_Sn 98 102 (e_un n_98_102) := u_ldAT f_l0_eq (s_aload (i := .aload_n 0) (len := 1) hq_98 (by decide +kernel) rfl (.inr ⟨0, rfl, rfl, rfl⟩) : e_Sn 98 102 (o_load e_okR 0 103)) t_98_103
noncomputable def n_98_101 : e_Y := u_ld f_okA f_l0 n_98_102
theorem t_98_101 : e_Sn 98 101 (e_un n_98_101) := u_ldAT f_l0_eq (s_aload (i := .aload_n 0) (len := 1) hq_98 (by decide +kernel) rfl (.inr ⟨0, rfl, rfl, rfl⟩) : e_Sn 98 101 (o_load e_okR 0 102)) t_98_102
noncomputable def n_98_69 : e_Y := n_98_123
theorem t_98_69 : e_Sn 98 69 (e_un n_98_69) := u_gotoT (s_goto (off := (54)) hq_98 (by decide +kernel) rfl : e_Sn 98 69 (o_goto 123)) t_98_123
noncomputable def n_98_68 : e_Y := u_old (o_ast 0 e_okI 69) n_98_69
theorem t_98_68 : e_Sn 98 68 (e_un n_98_68) := u_oldT (s_iast hq_98 (by decide +kernel) rfl : e_Sn 98 68 (o_ast 0 e_okI 69)) t_98_69 (e_cg_ast 0 e_okI)
noncomputable def n_98_67 : e_Y := u_bin a_iadd (u_old (o_iadd 68) n_98_68) n_98_68
theorem t_98_67 : e_Sn 98 67 (e_un n_98_67) := u_iaddT (s_iadd hq_98 (by decide +kernel) rfl : e_Sn 98 67 (o_iadd 68)) t_98_68
noncomputable def n_98_66 : e_Y := u_push (.inl 2147483649) n_98_67
theorem t_98_66 : e_Sn 98 66 (e_un n_98_66) := u_pushT (s_iconst (n := (1)) hq_98 (by decide +kernel) rfl ⟨by decide +kernel, by decide +kernel⟩ : e_Sn 98 66 (o_push (.inl 2147483649) 67)) t_98_67
noncomputable def n_98_65 : e_Y := u_ald 0 (u_old (o_ald e_fcs 66) n_98_66) n_98_66
theorem t_98_65 : e_Sn 98 65 (e_un n_98_65) := u_aldT (s_iald hq_98 (by decide +kernel) rfl : e_Sn 98 65 (o_ald e_fcs 66)) t_98_66
noncomputable def n_98_64 : e_Y := u_old (o_dup2 65) n_98_65
theorem t_98_64 : e_Sn 98 64 (e_un n_98_64) := u_oldT (s_dup2 hq_98 (by decide +kernel) rfl : e_Sn 98 64 (o_dup2 65)) t_98_65 e_cg_dup2
noncomputable def n_98_63 : e_Y := u_ald 0 (u_old (o_ald e_fcs 64) n_98_64) n_98_64
theorem t_98_63 : e_Sn 98 63 (e_un n_98_63) := u_aldT (s_iald hq_98 (by decide +kernel) rfl : e_Sn 98 63 (o_ald e_fcs 64)) t_98_64
noncomputable def n_98_62 : e_Y := u_push (.inl 2147483649) n_98_63
theorem t_98_62 : e_Sn 98 62 (e_un n_98_62) := u_pushT (s_iconst (n := (1)) hq_98 (by decide +kernel) rfl ⟨by decide +kernel, by decide +kernel⟩ : e_Sn 98 62 (o_push (.inl 2147483649) 63)) t_98_63
noncomputable def n_98_61 : e_Y := u_ld f_okA f_l2 n_98_62
theorem t_98_61 : e_Sn 98 61 (e_un n_98_61) := u_ldAT f_l2_eq (s_aload (i := .aload_n 2) (len := 1) hq_98 (by decide +kernel) rfl (.inr ⟨2, rfl, rfl, rfl⟩) : e_Sn 98 61 (o_load e_okR 2 62)) t_98_62
noncomputable def n_98_58 : e_Y := u_getf 14 12 (u_old (o_getf (e_f1 14 12) 61) n_98_61) n_98_61
theorem t_98_58 : e_Sn 98 58 (e_un n_98_58) := u_getfT (s_getf (C := er_14) (T := et_14) (N := 13) (ref := "PlateroomprinterModel$Machine") (index := 163) (ci := 14) (k := 12) hq_98 ho_98 ⟨rfl, by decide, ei_14, (List.mem_of_getElem? (i := 1927) (by decide +kernel)), .inl rfl⟩ (by decide +kernel) rfl : e_Sn 98 58 (o_getf (e_f1 14 12) 61)) t_98_61
noncomputable def n_98_55 : e_Y := u_getf 16 0 (u_old (o_getf (e_f1 16 0) 58) n_98_58) n_98_58
theorem t_98_55 : e_Sn 98 55 (e_un n_98_55) := u_getfT (s_getf (C := er_16) (T := et_16) (N := 5) (ref := "PlateroomprinterModel$Run") (index := 25) (ci := 16) (k := 0) hq_98 ho_98 ⟨rfl, by decide, ei_16, (List.mem_of_getElem? (i := 2150) (by decide +kernel)), .inl rfl⟩ (by decide +kernel) rfl : e_Sn 98 55 (o_getf (e_f1 16 0) 58)) t_98_58
noncomputable def n_98_54 : e_Y := u_ld f_okA f_l0 n_98_55
theorem t_98_54 : e_Sn 98 54 (e_un n_98_54) := u_ldAT f_l0_eq (s_aload (i := .aload_n 0) (len := 1) hq_98 (by decide +kernel) rfl (.inr ⟨0, rfl, rfl, rfl⟩) : e_Sn 98 54 (o_load e_okR 0 55)) t_98_55
noncomputable def n_98_51 : e_Y := u_callV 16 90 2 21 2 n_90_0 n_98_54
theorem t_98_51 : e_Sn 98 51 (e_un n_98_51) := u_callVT rfl (s_callV (ci := 16) (C := er_16) (T := et_16) (N := 5) (index := 159) hq_98 ho_98 hy_90 hp_90 hc_90 hi_90 hd_90 (List.mem_of_getElem? (i := 2259) (by decide +kernel)) hs_90 (List.mem_of_getElem? (i := 83) (by decide +kernel)) rfl (by decide +kernel) rfl : e_Sn 98 51 (o_callV (e_s1 16 90 2) 2 54)) t_90_0 t_98_54
noncomputable def n_98_50 : e_Y := u_ald 0 (u_old (o_ald e_fcs 51) n_98_51) n_98_51
theorem t_98_50 : e_Sn 98 50 (e_un n_98_50) := u_aldT (s_iald hq_98 (by decide +kernel) rfl : e_Sn 98 50 (o_ald e_fcs 51)) t_98_51
noncomputable def n_98_49 : e_Y := u_push (.inl 2147483649) n_98_50
theorem t_98_49 : e_Sn 98 49 (e_un n_98_49) := u_pushT (s_iconst (n := (1)) hq_98 (by decide +kernel) rfl ⟨by decide +kernel, by decide +kernel⟩ : e_Sn 98 49 (o_push (.inl 2147483649) 50)) t_98_50
noncomputable def n_98_48 : e_Y := u_ld f_okA f_l2 n_98_49
theorem t_98_48 : e_Sn 98 48 (e_un n_98_48) := u_ldAT f_l2_eq (s_aload (i := .aload_n 2) (len := 1) hq_98 (by decide +kernel) rfl (.inr ⟨2, rfl, rfl, rfl⟩) : e_Sn 98 48 (o_load e_okR 2 49)) t_98_49
noncomputable def n_98_47 : e_Y := u_ld f_okA f_l0 n_98_48
theorem t_98_47 : e_Sn 98 47 (e_un n_98_47) := u_ldAT f_l0_eq (s_aload (i := .aload_n 0) (len := 1) hq_98 (by decide +kernel) rfl (.inr ⟨0, rfl, rfl, rfl⟩) : e_Sn 98 47 (o_load e_okR 0 48)) t_98_48
noncomputable def n_98_44 : e_Y := n_98_123
theorem t_98_44 : e_Sn 98 44 (e_un n_98_44) := u_gotoT (s_goto (off := (79)) hq_98 (by decide +kernel) rfl : e_Sn 98 44 (o_goto 123)) t_98_123
noncomputable def n_98_41 : e_Y := u_callV 16 94 3 22 2 n_94_0 n_98_44
theorem t_98_41 : e_Sn 98 41 (e_un n_98_41) := u_callVT rfl (s_callV (ci := 16) (C := er_16) (T := et_16) (N := 5) (index := 118) hq_98 ho_98 hy_94 hp_94 hc_94 hi_94 hd_94 (List.mem_of_getElem? (i := 2196) (by decide +kernel)) hs_94 (List.mem_of_getElem? (i := 80) (by decide +kernel)) rfl (by decide +kernel) rfl : e_Sn 98 41 (o_callV (e_s1 16 94 3) 2 44)) t_94_0 t_98_44
noncomputable def n_98_40 : e_Y := u_old (o_i2l 41) n_98_41
theorem t_98_40 : e_Sn 98 40 (e_un n_98_40) := u_oldT (s_i2l hq_98 (by decide +kernel) rfl : e_Sn 98 40 (o_i2l 41)) t_98_41 e_congr_i2l
noncomputable def n_98_39 : e_Y := u_ald 0 (u_old (o_ald e_fcs 40) n_98_40) n_98_40
theorem t_98_39 : e_Sn 98 39 (e_un n_98_39) := u_aldT (s_iald hq_98 (by decide +kernel) rfl : e_Sn 98 39 (o_ald e_fcs 40)) t_98_40
noncomputable def n_98_38 : e_Y := u_push (.inl 2147483649) n_98_39
theorem t_98_38 : e_Sn 98 38 (e_un n_98_38) := u_pushT (s_iconst (n := (1)) hq_98 (by decide +kernel) rfl ⟨by decide +kernel, by decide +kernel⟩ : e_Sn 98 38 (o_push (.inl 2147483649) 39)) t_98_39
noncomputable def n_98_37 : e_Y := u_ld f_okA f_l2 n_98_38
theorem t_98_37 : e_Sn 98 37 (e_un n_98_37) := u_ldAT f_l2_eq (s_aload (i := .aload_n 2) (len := 1) hq_98 (by decide +kernel) rfl (.inr ⟨2, rfl, rfl, rfl⟩) : e_Sn 98 37 (o_load e_okR 2 38)) t_98_38
noncomputable def n_98_36 : e_Y := u_ld f_okA f_l0 n_98_37
theorem t_98_36 : e_Sn 98 36 (e_un n_98_36) := u_ldAT f_l0_eq (s_aload (i := .aload_n 0) (len := 1) hq_98 (by decide +kernel) rfl (.inr ⟨0, rfl, rfl, rfl⟩) : e_Sn 98 36 (o_load e_okR 0 37)) t_98_37
noncomputable def n_98_3 : e_Y := u_tab (o_switch 2147483648 [36, 47, 72, 91, 101] 113)
theorem t_98_3 : e_Sn 98 3 (e_un n_98_3) := u_tabT (s_switch (dflt := (110)) (low := (0)) (hi := (4)) (offs := #[(33), (44), (69), (88), (98)]) (len := 33) hq_98 (by decide +kernel) rfl rfl rfl rfl : e_Sn 98 3 (o_switch 2147483648 [36, 47, 72, 91, 101] 113))
noncomputable def n_98_2 : e_Y := u_ald 0 (u_old (o_ald e_fcs 3) n_98_3) n_98_3
theorem t_98_2 : e_Sn 98 2 (e_un n_98_2) := u_aldT (s_iald hq_98 (by decide +kernel) rfl : e_Sn 98 2 (o_ald e_fcs 3)) t_98_3
noncomputable def n_98_1 : e_Y := u_push (.inl 2147483648) n_98_2
theorem t_98_1 : e_Sn 98 1 (e_un n_98_1) := u_pushT (s_iconst (n := (0)) hq_98 (by decide +kernel) rfl ⟨by decide +kernel, by decide +kernel⟩ : e_Sn 98 1 (o_push (.inl 2147483648) 2)) t_98_2
noncomputable def n_98_0 : e_Y := u_ld f_okA f_l2 n_98_1
theorem t_98_0 : e_Sn 98 0 (e_un n_98_0) := u_ldAT f_l2_eq (s_aload (i := .aload_n 2) (len := 1) hq_98 (by decide +kernel) rfl (.inr ⟨2, rfl, rfl, rfl⟩) : e_Sn 98 0 (o_load e_okR 2 1)) t_98_1
noncomputable def e_tb_98 : e_X := (e_br 47 (e_br 36 (e_lf 0 (e_un n_98_0)) (e_lf 36 (e_un n_98_36))) (e_br 101 (e_lf 47 (e_un n_98_47)) (e_lf 101 (e_un n_98_101))))
theorem e_tk_98 : e_Tb 98 e_tb_98 := (e_brT (e_brT (e_lfT t_98_0) (e_lfT t_98_36)) (e_brT (e_lfT t_98_47) (e_lfT t_98_101)))
theorem hq_81 : (e_ml[81]?).map (·.2.1) = some prog_20_method_3_code := rfl
theorem ho_81 : (e_ml[81]?).map (·.1.cls) = some "PlateroomprinterModel$Run" := rfl
theorem hr_81 : (e_ml[81]?).map (·.2.2.2) = some none := rfl
noncomputable def n_81_173 : e_Y := u_tab (o_retv)
theorem t_81_173 : e_Sn 81 173 (e_un n_81_173) := u_tabT (s_vret hq_81 hr_81 (by decide +kernel) : e_Sn 81 173 (o_retv))
noncomputable def n_81_170 : e_Y := u_old (o_putf (e_f1 14 10) e_okI 173) n_81_173
theorem t_81_170 : e_Sn 81 170 (e_un n_81_170) := u_oldT (s_putf (ty0 := ey_14) (ok := e_okI) (C := er_14) (T := et_14) (N := 13) (ref := "PlateroomprinterModel$Machine") (index := 78) (ci := 14) (k := 10) hq_81 ho_81 ⟨rfl, by decide, ei_14, (List.mem_of_getElem? (i := 1921) (by decide +kernel)), .inl rfl⟩ eo_14 en_14 e_oksI (.inl rfl) (by decide +kernel) rfl : e_Sn 81 170 (o_putf (e_f1 14 10) e_okI 173)) t_81_173 (e_cg_putf (e_f1 14 10) e_okI)
noncomputable def n_81_167 : e_Y := u_getf 16 2 (u_old (o_getf (e_f1 16 2) 170) n_81_170) n_81_170
theorem t_81_167 : e_Sn 81 167 (e_un n_81_167) := u_getfT (s_getf (C := er_16) (T := et_16) (N := 5) (ref := "PlateroomprinterModel$Run") (index := 57) (ci := 16) (k := 2) hq_81 ho_81 ⟨rfl, by decide, ei_16, (List.mem_of_getElem? (i := 2152) (by decide +kernel)), .inl rfl⟩ (by decide +kernel) rfl : e_Sn 81 167 (o_getf (e_f1 16 2) 170)) t_81_170
noncomputable def n_81_166 : e_Y := u_ld f_okA f_l0 n_81_167
theorem t_81_166 : e_Sn 81 166 (e_un n_81_166) := u_ldAT f_l0_eq (s_aload (i := .aload_n 0) (len := 1) hq_81 (by decide +kernel) rfl (.inr ⟨0, rfl, rfl, rfl⟩) : e_Sn 81 166 (o_load e_okR 0 167)) t_81_167
noncomputable def n_81_163 : e_Y := u_getf 16 0 (u_old (o_getf (e_f1 16 0) 166) n_81_166) n_81_166
theorem t_81_163 : e_Sn 81 163 (e_un n_81_163) := u_getfT (s_getf (C := er_16) (T := et_16) (N := 5) (ref := "PlateroomprinterModel$Run") (index := 25) (ci := 16) (k := 0) hq_81 ho_81 ⟨rfl, by decide, ei_16, (List.mem_of_getElem? (i := 2150) (by decide +kernel)), .inl rfl⟩ (by decide +kernel) rfl : e_Sn 81 163 (o_getf (e_f1 16 0) 166)) t_81_166
noncomputable def n_81_162 : e_Y := u_ld f_okA f_l0 n_81_163
theorem t_81_162 : e_Sn 81 162 (e_un n_81_162) := u_ldAT f_l0_eq (s_aload (i := .aload_n 0) (len := 1) hq_81 (by decide +kernel) rfl (.inr ⟨0, rfl, rfl, rfl⟩) : e_Sn 81 162 (o_load e_okR 0 163)) t_81_163
noncomputable def n_81_159 : e_Y := u_old (o_putf (e_f1 14 9) e_okI 162) n_81_162
theorem t_81_159 : e_Sn 81 159 (e_un n_81_159) := u_oldT (s_putf (ty0 := ey_14) (ok := e_okI) (C := er_14) (T := et_14) (N := 13) (ref := "PlateroomprinterModel$Machine") (index := 77) (ci := 14) (k := 9) hq_81 ho_81 ⟨rfl, by decide, ei_14, (List.mem_of_getElem? (i := 1918) (by decide +kernel)), .inl rfl⟩ eo_14 en_14 e_oksI (.inl rfl) (by decide +kernel) rfl : e_Sn 81 159 (o_putf (e_f1 14 9) e_okI 162)) t_81_162 (e_cg_putf (e_f1 14 9) e_okI)
noncomputable def n_81_158 : e_Y := u_bin a_iadd (u_old (o_iadd 159) n_81_159) n_81_159
theorem t_81_158 : e_Sn 81 158 (e_un n_81_158) := u_iaddT (s_iadd hq_81 (by decide +kernel) rfl : e_Sn 81 158 (o_iadd 159)) t_81_159
noncomputable def n_81_155 : e_Y := u_getf 16 2 (u_old (o_getf (e_f1 16 2) 158) n_81_158) n_81_158
theorem t_81_155 : e_Sn 81 155 (e_un n_81_155) := u_getfT (s_getf (C := er_16) (T := et_16) (N := 5) (ref := "PlateroomprinterModel$Run") (index := 57) (ci := 16) (k := 2) hq_81 ho_81 ⟨rfl, by decide, ei_16, (List.mem_of_getElem? (i := 2152) (by decide +kernel)), .inl rfl⟩ (by decide +kernel) rfl : e_Sn 81 155 (o_getf (e_f1 16 2) 158)) t_81_158
noncomputable def n_81_154 : e_Y := u_ld f_okA f_l0 n_81_155
theorem t_81_154 : e_Sn 81 154 (e_un n_81_154) := u_ldAT f_l0_eq (s_aload (i := .aload_n 0) (len := 1) hq_81 (by decide +kernel) rfl (.inr ⟨0, rfl, rfl, rfl⟩) : e_Sn 81 154 (o_load e_okR 0 155)) t_81_155
noncomputable def n_81_151 : e_Y := u_getf 14 9 (u_old (o_getf (e_f1 14 9) 154) n_81_154) n_81_154
theorem t_81_151 : e_Sn 81 151 (e_un n_81_151) := u_getfT (s_getf (C := er_14) (T := et_14) (N := 13) (ref := "PlateroomprinterModel$Machine") (index := 77) (ci := 14) (k := 9) hq_81 ho_81 ⟨rfl, by decide, ei_14, (List.mem_of_getElem? (i := 1918) (by decide +kernel)), .inl rfl⟩ (by decide +kernel) rfl : e_Sn 81 151 (o_getf (e_f1 14 9) 154)) t_81_154
noncomputable def n_81_150 : e_Y := u_old (o_dup 151) n_81_151
theorem t_81_150 : e_Sn 81 150 (e_un n_81_150) := u_oldT (s_dup hq_81 (by decide +kernel) rfl : e_Sn 81 150 (o_dup 151)) t_81_151 e_cg_dup
noncomputable def n_81_147 : e_Y := u_getf 16 0 (u_old (o_getf (e_f1 16 0) 150) n_81_150) n_81_150
theorem t_81_147 : e_Sn 81 147 (e_un n_81_147) := u_getfT (s_getf (C := er_16) (T := et_16) (N := 5) (ref := "PlateroomprinterModel$Run") (index := 25) (ci := 16) (k := 0) hq_81 ho_81 ⟨rfl, by decide, ei_16, (List.mem_of_getElem? (i := 2150) (by decide +kernel)), .inl rfl⟩ (by decide +kernel) rfl : e_Sn 81 147 (o_getf (e_f1 16 0) 150)) t_81_150
noncomputable def n_81_146 : e_Y := u_ld f_okA f_l0 n_81_147
theorem t_81_146 : e_Sn 81 146 (e_un n_81_146) := u_ldAT f_l0_eq (s_aload (i := .aload_n 0) (len := 1) hq_81 (by decide +kernel) rfl (.inr ⟨0, rfl, rfl, rfl⟩) : e_Sn 81 146 (o_load e_okR 0 147)) t_81_147
noncomputable def n_81_143 : e_Y := (u_at 0)
theorem t_81_143 : e_Sn 81 143 (e_un n_81_143) := u_gotoT (s_goto (off := (-143)) hq_81 (by decide +kernel) rfl : e_Sn 81 143 (o_goto 0)) u_atT
noncomputable def n_81_140 : e_Y := u_callS 68 2 21 2 n_68_0 n_81_143
theorem t_81_140 : e_Sn 81 140 (e_un n_81_140) := u_callST rfl (s_callSN (host := "PlateroomprinterModel") (index := 73) hq_81 ho_81 hy_68 hp_68 hc_68 hi_68 hd_68 (List.mem_of_getElem? (i := 2203) (by decide +kernel)) hs_68 (by decide +kernel) rfl : e_Sn 81 140 (o_callS 68 2 2 143)) t_68_0 t_81_143
noncomputable def n_81_138 : e_Y := u_push (.inl 2147483659) n_81_140
theorem t_81_138 : e_Sn 81 138 (e_un n_81_138) := u_pushT (s_bipush (n := (11)) hq_81 (by decide +kernel) rfl ⟨by decide +kernel, by decide +kernel⟩ : e_Sn 81 138 (o_push (.inl 2147483659) 140)) t_81_140
noncomputable def n_81_134 : e_Y := n_81_138
theorem t_81_134 : e_Sn 81 134 (e_un n_81_134) := u_gotoT (s_goto (off := (4)) hq_81 (by decide +kernel) rfl : e_Sn 81 134 (o_goto 138)) t_81_138
noncomputable def n_81_133 : e_Y := u_push (.inl 2147483649) n_81_134
theorem t_81_133 : e_Sn 81 133 (e_un n_81_133) := u_pushT (s_iconst (n := (1)) hq_81 (by decide +kernel) rfl ⟨by decide +kernel, by decide +kernel⟩ : e_Sn 81 133 (o_push (.inl 2147483649) 134)) t_81_134
noncomputable def n_81_130 : e_Y := u_jmp y_le (u_old2 (o_cgt 137 133) 137 (u_at 137) n_81_133) (u_at 137) n_81_133
theorem t_81_130 : e_Sn 81 130 (e_un n_81_130) := u_cgtT rfl (s_cgt (off := (7)) hq_81 (by decide +kernel) rfl rfl : e_Sn 81 130 (o_cgt 137 133)) u_atT t_81_133
noncomputable def n_81_127 : e_Y := u_push (.inl 2147488648) n_81_130
theorem t_81_127 : e_Sn 81 127 (e_un n_81_127) := u_pushT (s_sipush (n := (5000)) hq_81 (by decide +kernel) rfl ⟨by decide +kernel, by decide +kernel⟩ : e_Sn 81 127 (o_push (.inl 2147488648) 130)) t_81_130
noncomputable def n_81_124 : e_Y := u_getf 16 2 (u_old (o_getf (e_f1 16 2) 127) n_81_127) n_81_127
theorem t_81_124 : e_Sn 81 124 (e_un n_81_124) := u_getfT (s_getf (C := er_16) (T := et_16) (N := 5) (ref := "PlateroomprinterModel$Run") (index := 57) (ci := 16) (k := 2) hq_81 ho_81 ⟨rfl, by decide, ei_16, (List.mem_of_getElem? (i := 2152) (by decide +kernel)), .inl rfl⟩ (by decide +kernel) rfl : e_Sn 81 124 (o_getf (e_f1 16 2) 127)) t_81_127
noncomputable def n_81_123 : e_Y := u_ld f_okA f_l0 n_81_124
theorem t_81_123 : e_Sn 81 123 (e_un n_81_123) := u_ldAT f_l0_eq (s_aload (i := .aload_n 0) (len := 1) hq_81 (by decide +kernel) rfl (.inr ⟨0, rfl, rfl, rfl⟩) : e_Sn 81 123 (o_load e_okR 0 124)) t_81_124
noncomputable def n_81_120 : e_Y := u_old (o_putf (e_f1 14 11) e_okI 123) n_81_123
theorem t_81_120 : e_Sn 81 120 (e_un n_81_120) := u_oldT (s_putf (ty0 := ey_14) (ok := e_okI) (C := er_14) (T := et_14) (N := 13) (ref := "PlateroomprinterModel$Machine") (index := 69) (ci := 14) (k := 11) hq_81 ho_81 ⟨rfl, by decide, ei_14, (List.mem_of_getElem? (i := 1924) (by decide +kernel)), .inl rfl⟩ eo_14 en_14 e_oksI (.inl rfl) (by decide +kernel) rfl : e_Sn 81 120 (o_putf (e_f1 14 11) e_okI 123)) t_81_123 (e_cg_putf (e_f1 14 11) e_okI)
noncomputable def n_81_119 : e_Y := u_bin a_iadd (u_old (o_iadd 120) n_81_120) n_81_120
theorem t_81_119 : e_Sn 81 119 (e_un n_81_119) := u_iaddT (s_iadd hq_81 (by decide +kernel) rfl : e_Sn 81 119 (o_iadd 120)) t_81_120
noncomputable def n_81_118 : e_Y := u_push (.inl 2147483649) n_81_119
theorem t_81_118 : e_Sn 81 118 (e_un n_81_118) := u_pushT (s_iconst (n := (1)) hq_81 (by decide +kernel) rfl ⟨by decide +kernel, by decide +kernel⟩ : e_Sn 81 118 (o_push (.inl 2147483649) 119)) t_81_119
noncomputable def n_81_115 : e_Y := u_getf 14 11 (u_old (o_getf (e_f1 14 11) 118) n_81_118) n_81_118
theorem t_81_115 : e_Sn 81 115 (e_un n_81_115) := u_getfT (s_getf (C := er_14) (T := et_14) (N := 13) (ref := "PlateroomprinterModel$Machine") (index := 69) (ci := 14) (k := 11) hq_81 ho_81 ⟨rfl, by decide, ei_14, (List.mem_of_getElem? (i := 1924) (by decide +kernel)), .inl rfl⟩ (by decide +kernel) rfl : e_Sn 81 115 (o_getf (e_f1 14 11) 118)) t_81_118
noncomputable def n_81_114 : e_Y := u_old (o_dup 115) n_81_115
theorem t_81_114 : e_Sn 81 114 (e_un n_81_114) := u_oldT (s_dup hq_81 (by decide +kernel) rfl : e_Sn 81 114 (o_dup 115)) t_81_115 e_cg_dup
noncomputable def n_81_111 : e_Y := u_getf 16 0 (u_old (o_getf (e_f1 16 0) 114) n_81_114) n_81_114
theorem t_81_111 : e_Sn 81 111 (e_un n_81_111) := u_getfT (s_getf (C := er_16) (T := et_16) (N := 5) (ref := "PlateroomprinterModel$Run") (index := 25) (ci := 16) (k := 0) hq_81 ho_81 ⟨rfl, by decide, ei_16, (List.mem_of_getElem? (i := 2150) (by decide +kernel)), .inl rfl⟩ (by decide +kernel) rfl : e_Sn 81 111 (o_getf (e_f1 16 0) 114)) t_81_114
noncomputable def n_81_110 : e_Y := u_ld f_okA f_l0 n_81_111
theorem t_81_110 : e_Sn 81 110 (e_un n_81_110) := u_ldAT f_l0_eq (s_aload (i := .aload_n 0) (len := 1) hq_81 (by decide +kernel) rfl (.inr ⟨0, rfl, rfl, rfl⟩) : e_Sn 81 110 (o_load e_okR 0 111)) t_81_111
noncomputable def n_81_107 : e_Y := u_callV 16 98 3 22 3 n_98_0 n_81_110
theorem t_81_107 : e_Sn 81 107 (e_un n_81_107) := u_callVT rfl (s_callV (ci := 16) (C := er_16) (T := et_16) (N := 5) (index := 65) hq_81 ho_81 hy_98 hp_98 hc_98 hi_98 hd_98 (List.mem_of_getElem? (i := 2255) (by decide +kernel)) hs_98 (List.mem_of_getElem? (i := 82) (by decide +kernel)) rfl (by decide +kernel) rfl : e_Sn 81 107 (o_callV (e_s1 16 98 3) 3 110)) t_98_0 t_81_110
noncomputable def n_81_104 : e_Y := u_old (o_cast 100 107) n_81_107
theorem t_81_104 : e_Sn 81 104 (e_un n_81_104) := u_oldT (s_cast (index := 63) hq_81 ho_81 (List.mem_of_getElem? (i := 2254) (by decide +kernel)) (.inr ⟨rfl, rfl⟩) (by decide +kernel) rfl : e_Sn 81 104 (o_cast 100 107)) t_81_107 (e_cg_cast 100)
noncomputable def n_81_101 : e_Y := u_callV 19 111 2 21 2 n_111_0 n_81_104
theorem t_81_101 : e_Sn 81 101 (e_un n_81_101) := u_callVT rfl (s_callV (ci := 19) (C := er_19) (T := et_19) (N := 3) (index := 42) hq_81 ho_81 hy_111 hp_111 hc_111 hi_111 hd_111 (List.mem_of_getElem? (i := 2182) (by decide +kernel)) hs_111 (List.mem_of_getElem? (i := 2051) (by decide +kernel)) rfl (by decide +kernel) rfl : e_Sn 81 101 (o_callV (e_s1 19 111 2) 2 104)) t_111_0 t_81_104
noncomputable def n_81_98 : e_Y := u_getf 16 4 (u_old (o_getf (e_f1 16 4) 101) n_81_101) n_81_101
theorem t_81_98 : e_Sn 81 98 (e_un n_81_98) := u_getfT (s_getf (C := er_16) (T := et_16) (N := 5) (ref := "PlateroomprinterModel$Run") (index := 22) (ci := 16) (k := 4) hq_81 ho_81 ⟨rfl, by decide, ei_16, (List.mem_of_getElem? (i := 2155) (by decide +kernel)), .inl rfl⟩ (by decide +kernel) rfl : e_Sn 81 98 (o_getf (e_f1 16 4) 101)) t_81_101
noncomputable def n_81_97 : e_Y := u_ld f_okA f_l0 n_81_98
theorem t_81_97 : e_Sn 81 97 (e_un n_81_97) := u_ldAT f_l0_eq (s_aload (i := .aload_n 0) (len := 1) hq_81 (by decide +kernel) rfl (.inr ⟨0, rfl, rfl, rfl⟩) : e_Sn 81 97 (o_load e_okR 0 98)) t_81_98
noncomputable def n_81_94 : e_Y := u_getf 15 0 (u_old (o_getf (e_f1 15 0) 97) n_81_97) n_81_97
theorem t_81_94 : e_Sn 81 94 (e_un n_81_94) := u_getfT (s_getf (C := er_15) (T := et_15) (N := 8) (ref := "PlateroomprinterModel$Row") (index := 60) (ci := 15) (k := 0) hq_81 ho_81 ⟨rfl, by decide, ei_15, (List.mem_of_getElem? (i := 2123) (by decide +kernel)), .inl rfl⟩ (by decide +kernel) rfl : e_Sn 81 94 (o_getf (e_f1 15 0) 97)) t_81_97
noncomputable def n_81_93 : e_Y := u_ld f_okA f_l1 n_81_94
theorem t_81_93 : e_Sn 81 93 (e_un n_81_93) := u_ldAT f_l1_eq (s_aload (i := .aload_n 1) (len := 1) hq_81 (by decide +kernel) rfl (.inr ⟨1, rfl, rfl, rfl⟩) : e_Sn 81 93 (o_load e_okR 1 94)) t_81_94
noncomputable def n_81_92 : e_Y := u_ld f_okA f_l1 n_81_93
theorem t_81_92 : e_Sn 81 92 (e_un n_81_92) := u_ldAT f_l1_eq (s_aload (i := .aload_n 1) (len := 1) hq_81 (by decide +kernel) rfl (.inr ⟨1, rfl, rfl, rfl⟩) : e_Sn 81 92 (o_load e_okR 1 93)) t_81_93
noncomputable def n_81_91 : e_Y := u_ld f_okA f_l0 n_81_92
theorem t_81_91 : e_Sn 81 91 (e_un n_81_91) := u_ldAT f_l0_eq (s_aload (i := .aload_n 0) (len := 1) hq_81 (by decide +kernel) rfl (.inr ⟨0, rfl, rfl, rfl⟩) : e_Sn 81 91 (o_load e_okR 0 92)) t_81_92
noncomputable def n_81_88 : e_Y := u_old (o_putf (e_f1 16 2) e_okI 91) n_81_91
theorem t_81_88 : e_Sn 81 88 (e_un n_81_88) := u_oldT (s_putf (ty0 := ey_16) (ok := e_okI) (C := er_16) (T := et_16) (N := 5) (ref := "PlateroomprinterModel$Run") (index := 57) (ci := 16) (k := 2) hq_81 ho_81 ⟨rfl, by decide, ei_16, (List.mem_of_getElem? (i := 2152) (by decide +kernel)), .inl rfl⟩ eo_16 en_16 e_oksI (.inl rfl) (by decide +kernel) rfl : e_Sn 81 88 (o_putf (e_f1 16 2) e_okI 91)) t_81_91 (e_cg_putf (e_f1 16 2) e_okI)
noncomputable def n_81_87 : e_Y := u_bin a_iadd (u_old (o_iadd 88) n_81_88) n_81_88
theorem t_81_87 : e_Sn 81 87 (e_un n_81_87) := u_iaddT (s_iadd hq_81 (by decide +kernel) rfl : e_Sn 81 87 (o_iadd 88)) t_81_88
noncomputable def n_81_86 : e_Y := u_push (.inl 2147483649) n_81_87
theorem t_81_86 : e_Sn 81 86 (e_un n_81_86) := u_pushT (s_iconst (n := (1)) hq_81 (by decide +kernel) rfl ⟨by decide +kernel, by decide +kernel⟩ : e_Sn 81 86 (o_push (.inl 2147483649) 87)) t_81_87
noncomputable def n_81_83 : e_Y := u_getf 16 2 (u_old (o_getf (e_f1 16 2) 86) n_81_86) n_81_86
theorem t_81_83 : e_Sn 81 83 (e_un n_81_83) := u_getfT (s_getf (C := er_16) (T := et_16) (N := 5) (ref := "PlateroomprinterModel$Run") (index := 57) (ci := 16) (k := 2) hq_81 ho_81 ⟨rfl, by decide, ei_16, (List.mem_of_getElem? (i := 2152) (by decide +kernel)), .inl rfl⟩ (by decide +kernel) rfl : e_Sn 81 83 (o_getf (e_f1 16 2) 86)) t_81_86
noncomputable def n_81_82 : e_Y := u_old (o_dup 83) n_81_83
theorem t_81_82 : e_Sn 81 82 (e_un n_81_82) := u_oldT (s_dup hq_81 (by decide +kernel) rfl : e_Sn 81 82 (o_dup 83)) t_81_83 e_cg_dup
noncomputable def n_81_81 : e_Y := u_ld f_okA f_l0 n_81_82
theorem t_81_81 : e_Sn 81 81 (e_un n_81_81) := u_ldAT f_l0_eq (s_aload (i := .aload_n 0) (len := 1) hq_81 (by decide +kernel) rfl (.inr ⟨0, rfl, rfl, rfl⟩) : e_Sn 81 81 (o_load e_okR 0 82)) t_81_82
noncomputable def n_81_78 : e_Y := u_old (o_putf (e_f1 15 1) e_okI 81) n_81_81
theorem t_81_78 : e_Sn 81 78 (e_un n_81_78) := u_oldT (s_putf (ty0 := ey_15) (ok := e_okI) (C := er_15) (T := et_15) (N := 8) (ref := "PlateroomprinterModel$Row") (index := 50) (ci := 15) (k := 1) hq_81 ho_81 ⟨rfl, by decide, ei_15, (List.mem_of_getElem? (i := 2125) (by decide +kernel)), .inl rfl⟩ eo_15 en_15 e_oksI (.inl rfl) (by decide +kernel) rfl : e_Sn 81 78 (o_putf (e_f1 15 1) e_okI 81)) t_81_81 (e_cg_putf (e_f1 15 1) e_okI)
noncomputable def n_81_77 : e_Y := u_bin a_iadd (u_old (o_iadd 78) n_81_78) n_81_78
theorem t_81_77 : e_Sn 81 77 (e_un n_81_77) := u_iaddT (s_iadd hq_81 (by decide +kernel) rfl : e_Sn 81 77 (o_iadd 78)) t_81_78
noncomputable def n_81_76 : e_Y := u_push (.inl 2147483649) n_81_77
theorem t_81_76 : e_Sn 81 76 (e_un n_81_76) := u_pushT (s_iconst (n := (1)) hq_81 (by decide +kernel) rfl ⟨by decide +kernel, by decide +kernel⟩ : e_Sn 81 76 (o_push (.inl 2147483649) 77)) t_81_77
noncomputable def n_81_73 : e_Y := u_getf 15 1 (u_old (o_getf (e_f1 15 1) 76) n_81_76) n_81_76
theorem t_81_73 : e_Sn 81 73 (e_un n_81_73) := u_getfT (s_getf (C := er_15) (T := et_15) (N := 8) (ref := "PlateroomprinterModel$Row") (index := 50) (ci := 15) (k := 1) hq_81 ho_81 ⟨rfl, by decide, ei_15, (List.mem_of_getElem? (i := 2125) (by decide +kernel)), .inl rfl⟩ (by decide +kernel) rfl : e_Sn 81 73 (o_getf (e_f1 15 1) 76)) t_81_76
noncomputable def n_81_72 : e_Y := u_old (o_dup 73) n_81_73
theorem t_81_72 : e_Sn 81 72 (e_un n_81_72) := u_oldT (s_dup hq_81 (by decide +kernel) rfl : e_Sn 81 72 (o_dup 73)) t_81_73 e_cg_dup
noncomputable def n_81_71 : e_Y := u_ld f_okA f_l1 n_81_72
theorem t_81_71 : e_Sn 81 71 (e_un n_81_71) := u_ldAT f_l1_eq (s_aload (i := .aload_n 1) (len := 1) hq_81 (by decide +kernel) rfl (.inr ⟨1, rfl, rfl, rfl⟩) : e_Sn 81 71 (o_load e_okR 1 72)) t_81_72
noncomputable def n_81_70 : e_Y := u_st f_okA f_s1 n_81_71
theorem t_81_70 : e_Sn 81 70 (e_un n_81_70) := u_stAT (fun _ _ _ => f_s1_eq) (s_astore (i := .astore_n 1) (len := 1) hq_81 (by decide +kernel) rfl (.inr ⟨1, rfl, rfl, rfl⟩) : e_Sn 81 70 (o_store e_okR 1 71)) t_81_71
noncomputable def n_81_67 : e_Y := u_callV 16 99 1 20 1 n_99_0 n_81_70
theorem t_81_67 : e_Sn 81 67 (e_un n_81_67) := u_callVT rfl (s_callV (ci := 16) (C := er_16) (T := et_16) (N := 5) (index := 53) hq_81 ho_81 hy_99 hp_99 hc_99 hi_99 hd_99 (List.mem_of_getElem? (i := 2177) (by decide +kernel)) hs_99 (List.mem_of_getElem? (i := 77) (by decide +kernel)) rfl (by decide +kernel) rfl : e_Sn 81 67 (o_callV (e_s1 16 99 1) 1 70)) t_99_0 t_81_70
noncomputable def n_81_66 : e_Y := u_ld f_okA f_l0 n_81_67
theorem t_81_66 : e_Sn 81 66 (e_un n_81_66) := u_ldAT f_l0_eq (s_aload (i := .aload_n 0) (len := 1) hq_81 (by decide +kernel) rfl (.inr ⟨0, rfl, rfl, rfl⟩) : e_Sn 81 66 (o_load e_okR 0 67)) t_81_67
noncomputable def n_81_63 : e_Y := u_old (o_putf (e_f1 16 4) e_okI 66) n_81_66
theorem t_81_63 : e_Sn 81 63 (e_un n_81_63) := u_oldT (s_putf (ty0 := ey_16) (ok := e_okI) (C := er_16) (T := et_16) (N := 5) (ref := "PlateroomprinterModel$Run") (index := 22) (ci := 16) (k := 4) hq_81 ho_81 ⟨rfl, by decide, ei_16, (List.mem_of_getElem? (i := 2155) (by decide +kernel)), .inl rfl⟩ eo_16 en_16 e_oksI (.inl rfl) (by decide +kernel) rfl : e_Sn 81 63 (o_putf (e_f1 16 4) e_okI 66)) t_81_66 (e_cg_putf (e_f1 16 4) e_okI)
noncomputable def n_81_60 : e_Y := u_getf 15 1 (u_old (o_getf (e_f1 15 1) 63) n_81_63) n_81_63
theorem t_81_60 : e_Sn 81 60 (e_un n_81_60) := u_getfT (s_getf (C := er_15) (T := et_15) (N := 8) (ref := "PlateroomprinterModel$Row") (index := 50) (ci := 15) (k := 1) hq_81 ho_81 ⟨rfl, by decide, ei_15, (List.mem_of_getElem? (i := 2125) (by decide +kernel)), .inl rfl⟩ (by decide +kernel) rfl : e_Sn 81 60 (o_getf (e_f1 15 1) 63)) t_81_63
noncomputable def n_81_57 : e_Y := u_callV 16 99 1 20 1 n_99_0 n_81_60
theorem t_81_57 : e_Sn 81 57 (e_un n_81_57) := u_callVT rfl (s_callV (ci := 16) (C := er_16) (T := et_16) (N := 5) (index := 53) hq_81 ho_81 hy_99 hp_99 hc_99 hi_99 hd_99 (List.mem_of_getElem? (i := 2177) (by decide +kernel)) hs_99 (List.mem_of_getElem? (i := 77) (by decide +kernel)) rfl (by decide +kernel) rfl : e_Sn 81 57 (o_callV (e_s1 16 99 1) 1 60)) t_99_0 t_81_60
noncomputable def n_81_56 : e_Y := u_ld f_okA f_l0 n_81_57
theorem t_81_56 : e_Sn 81 56 (e_un n_81_56) := u_ldAT f_l0_eq (s_aload (i := .aload_n 0) (len := 1) hq_81 (by decide +kernel) rfl (.inr ⟨0, rfl, rfl, rfl⟩) : e_Sn 81 56 (o_load e_okR 0 57)) t_81_57
noncomputable def n_81_55 : e_Y := u_ld f_okA f_l0 n_81_56
theorem t_81_55 : e_Sn 81 55 (e_un n_81_55) := u_ldAT f_l0_eq (s_aload (i := .aload_n 0) (len := 1) hq_81 (by decide +kernel) rfl (.inr ⟨0, rfl, rfl, rfl⟩) : e_Sn 81 55 (o_load e_okR 0 56)) t_81_56
noncomputable def n_81_52 : e_Y := u_old (o_putf (e_f1 16 3) e_okI 55) n_81_55
theorem t_81_52 : e_Sn 81 52 (e_un n_81_52) := u_oldT (s_putf (ty0 := ey_16) (ok := e_okI) (C := er_16) (T := et_16) (N := 5) (ref := "PlateroomprinterModel$Run") (index := 18) (ci := 16) (k := 3) hq_81 ho_81 ⟨rfl, by decide, ei_16, (List.mem_of_getElem? (i := 2153) (by decide +kernel)), .inl rfl⟩ eo_16 en_16 e_oksI (.inl rfl) (by decide +kernel) rfl : e_Sn 81 52 (o_putf (e_f1 16 3) e_okI 55)) t_81_55 (e_cg_putf (e_f1 16 3) e_okI)
noncomputable def n_81_51 : e_Y := u_bin a_isub (u_old (o_isub 52) n_81_52) n_81_52
theorem t_81_51 : e_Sn 81 51 (e_un n_81_51) := u_isubT (s_isub hq_81 (by decide +kernel) rfl : e_Sn 81 51 (o_isub 52)) t_81_52
noncomputable def n_81_50 : e_Y := u_push (.inl 2147483649) n_81_51
theorem t_81_50 : e_Sn 81 50 (e_un n_81_50) := u_pushT (s_iconst (n := (1)) hq_81 (by decide +kernel) rfl ⟨by decide +kernel, by decide +kernel⟩ : e_Sn 81 50 (o_push (.inl 2147483649) 51)) t_81_51
noncomputable def n_81_47 : e_Y := u_getf 15 1 (u_old (o_getf (e_f1 15 1) 50) n_81_50) n_81_50
theorem t_81_47 : e_Sn 81 47 (e_un n_81_47) := u_getfT (s_getf (C := er_15) (T := et_15) (N := 8) (ref := "PlateroomprinterModel$Row") (index := 50) (ci := 15) (k := 1) hq_81 ho_81 ⟨rfl, by decide, ei_15, (List.mem_of_getElem? (i := 2125) (by decide +kernel)), .inl rfl⟩ (by decide +kernel) rfl : e_Sn 81 47 (o_getf (e_f1 15 1) 50)) t_81_50
noncomputable def n_81_44 : e_Y := u_old (o_cast 15 47) n_81_47
theorem t_81_44 : e_Sn 81 44 (e_un n_81_44) := u_oldT (s_cast (index := 29) hq_81 ho_81 (List.mem_of_getElem? (i := 2116) (by decide +kernel)) (.inl ⟨by decide, rfl⟩) (by decide +kernel) rfl : e_Sn 81 44 (o_cast 15 47)) t_81_47 (e_cg_cast 15)
noncomputable def n_81_41 : e_Y := u_callV 19 111 2 21 2 n_111_0 n_81_44
theorem t_81_41 : e_Sn 81 41 (e_un n_81_41) := u_callVT rfl (s_callV (ci := 19) (C := er_19) (T := et_19) (N := 3) (index := 42) hq_81 ho_81 hy_111 hp_111 hc_111 hi_111 hd_111 (List.mem_of_getElem? (i := 2182) (by decide +kernel)) hs_111 (List.mem_of_getElem? (i := 2051) (by decide +kernel)) rfl (by decide +kernel) rfl : e_Sn 81 41 (o_callV (e_s1 19 111 2) 2 44)) t_111_0 t_81_44
noncomputable def n_81_40 : e_Y := u_push (.inl 2147483648) n_81_41
theorem t_81_40 : e_Sn 81 40 (e_un n_81_40) := u_pushT (s_iconst (n := (0)) hq_81 (by decide +kernel) rfl ⟨by decide +kernel, by decide +kernel⟩ : e_Sn 81 40 (o_push (.inl 2147483648) 41)) t_81_41
noncomputable def n_81_37 : e_Y := u_getf 16 1 (u_old (o_getf (e_f1 16 1) 40) n_81_40) n_81_40
theorem t_81_37 : e_Sn 81 37 (e_un n_81_37) := u_getfT (s_getf (C := er_16) (T := et_16) (N := 5) (ref := "PlateroomprinterModel$Run") (index := 12) (ci := 16) (k := 1) hq_81 ho_81 ⟨rfl, by decide, ei_16, (List.mem_of_getElem? (i := 2151) (by decide +kernel)), .inl rfl⟩ (by decide +kernel) rfl : e_Sn 81 37 (o_getf (e_f1 16 1) 40)) t_81_40
noncomputable def n_81_36 : e_Y := u_ld f_okA f_l0 n_81_37
theorem t_81_36 : e_Sn 81 36 (e_un n_81_36) := u_ldAT f_l0_eq (s_aload (i := .aload_n 0) (len := 1) hq_81 (by decide +kernel) rfl (.inr ⟨0, rfl, rfl, rfl⟩) : e_Sn 81 36 (o_load e_okR 0 37)) t_81_37
noncomputable def n_81_33 : e_Y := n_81_52
theorem t_81_33 : e_Sn 81 33 (e_un n_81_33) := u_gotoT (s_goto (off := (19)) hq_81 (by decide +kernel) rfl : e_Sn 81 33 (o_goto 52)) t_81_52
noncomputable def n_81_30 : e_Y := u_getf 15 1 (u_old (o_getf (e_f1 15 1) 33) n_81_33) n_81_33
theorem t_81_30 : e_Sn 81 30 (e_un n_81_30) := u_getfT (s_getf (C := er_15) (T := et_15) (N := 8) (ref := "PlateroomprinterModel$Row") (index := 50) (ci := 15) (k := 1) hq_81 ho_81 ⟨rfl, by decide, ei_15, (List.mem_of_getElem? (i := 2125) (by decide +kernel)), .inl rfl⟩ (by decide +kernel) rfl : e_Sn 81 30 (o_getf (e_f1 15 1) 33)) t_81_33
noncomputable def n_81_27 : e_Y := u_old (o_cast 15 30) n_81_30
theorem t_81_27 : e_Sn 81 27 (e_un n_81_27) := u_oldT (s_cast (index := 29) hq_81 ho_81 (List.mem_of_getElem? (i := 2116) (by decide +kernel)) (.inl ⟨by decide, rfl⟩) (by decide +kernel) rfl : e_Sn 81 27 (o_cast 15 30)) t_81_30 (e_cg_cast 15)
noncomputable def n_81_24 : e_Y := u_callV 19 111 2 21 2 n_111_0 n_81_27
theorem t_81_24 : e_Sn 81 24 (e_un n_81_24) := u_callVT rfl (s_callV (ci := 19) (C := er_19) (T := et_19) (N := 3) (index := 42) hq_81 ho_81 hy_111 hp_111 hc_111 hi_111 hd_111 (List.mem_of_getElem? (i := 2182) (by decide +kernel)) hs_111 (List.mem_of_getElem? (i := 2051) (by decide +kernel)) rfl (by decide +kernel) rfl : e_Sn 81 24 (o_callV (e_s1 19 111 2) 2 27)) t_111_0 t_81_27
noncomputable def n_81_23 : e_Y := u_push (.inl 2147483648) n_81_24
theorem t_81_23 : e_Sn 81 23 (e_un n_81_23) := u_pushT (s_iconst (n := (0)) hq_81 (by decide +kernel) rfl ⟨by decide +kernel, by decide +kernel⟩ : e_Sn 81 23 (o_push (.inl 2147483648) 24)) t_81_24
noncomputable def n_81_20 : e_Y := u_getf 16 1 (u_old (o_getf (e_f1 16 1) 23) n_81_23) n_81_23
theorem t_81_20 : e_Sn 81 20 (e_un n_81_20) := u_getfT (s_getf (C := er_16) (T := et_16) (N := 5) (ref := "PlateroomprinterModel$Run") (index := 12) (ci := 16) (k := 1) hq_81 ho_81 ⟨rfl, by decide, ei_16, (List.mem_of_getElem? (i := 2151) (by decide +kernel)), .inl rfl⟩ (by decide +kernel) rfl : e_Sn 81 20 (o_getf (e_f1 16 1) 23)) t_81_23
noncomputable def n_81_19 : e_Y := u_ld f_okA f_l0 n_81_20
theorem t_81_19 : e_Sn 81 19 (e_un n_81_19) := u_ldAT f_l0_eq (s_aload (i := .aload_n 0) (len := 1) hq_81 (by decide +kernel) rfl (.inr ⟨0, rfl, rfl, rfl⟩) : e_Sn 81 19 (o_load e_okR 0 20)) t_81_20
noncomputable def n_81_16 : e_Y := u_jmp y_ne (u_old2 (o_ceq 19 36) 19 n_81_19 n_81_36) n_81_19 n_81_36
theorem t_81_16 : e_Sn 81 16 (e_un n_81_16) := u_ceqT rfl (s_cne (off := (20)) hq_81 (by decide +kernel) rfl rfl : e_Sn 81 16 (o_ceq 19 36)) t_81_19 t_81_36
noncomputable def n_81_15 : e_Y := u_push (.inl 2147483649) n_81_16
theorem t_81_15 : e_Sn 81 15 (e_un n_81_15) := u_pushT (s_iconst (n := (1)) hq_81 (by decide +kernel) rfl ⟨by decide +kernel, by decide +kernel⟩ : e_Sn 81 15 (o_push (.inl 2147483649) 16)) t_81_16
noncomputable def n_81_12 : e_Y := u_callV 19 117 1 20 1 n_117_0 n_81_15
theorem t_81_12 : e_Sn 81 12 (e_un n_81_12) := u_callVT rfl (s_callV (ci := 19) (C := er_19) (T := et_19) (N := 3) (index := 38) hq_81 ho_81 hy_117 hp_117 hc_117 hi_117 hd_117 (List.mem_of_getElem? (i := 2181) (by decide +kernel)) hs_117 (List.mem_of_getElem? (i := 2002) (by decide +kernel)) rfl (by decide +kernel) rfl : e_Sn 81 12 (o_callV (e_s1 19 117 1) 1 15)) t_117_0 t_81_15
noncomputable def n_81_9 : e_Y := u_getf 16 1 (u_old (o_getf (e_f1 16 1) 12) n_81_12) n_81_12
theorem t_81_9 : e_Sn 81 9 (e_un n_81_9) := u_getfT (s_getf (C := er_16) (T := et_16) (N := 5) (ref := "PlateroomprinterModel$Run") (index := 12) (ci := 16) (k := 1) hq_81 ho_81 ⟨rfl, by decide, ei_16, (List.mem_of_getElem? (i := 2151) (by decide +kernel)), .inl rfl⟩ (by decide +kernel) rfl : e_Sn 81 9 (o_getf (e_f1 16 1) 12)) t_81_12
noncomputable def n_81_8 : e_Y := u_ld f_okA f_l0 n_81_9
theorem t_81_8 : e_Sn 81 8 (e_un n_81_8) := u_ldAT f_l0_eq (s_aload (i := .aload_n 0) (len := 1) hq_81 (by decide +kernel) rfl (.inr ⟨0, rfl, rfl, rfl⟩) : e_Sn 81 8 (o_load e_okR 0 9)) t_81_9
noncomputable def n_81_7 : e_Y := u_ld f_okA f_l0 n_81_8
theorem t_81_7 : e_Sn 81 7 (e_un n_81_7) := u_ldAT f_l0_eq (s_aload (i := .aload_n 0) (len := 1) hq_81 (by decide +kernel) rfl (.inr ⟨0, rfl, rfl, rfl⟩) : e_Sn 81 7 (o_load e_okR 0 8)) t_81_8
noncomputable def n_81_4 : e_Y := u_if y_ne0 (u_old2 (o_ifeq 146 7) 146 n_81_146 n_81_7) n_81_146 n_81_7
theorem t_81_4 : e_Sn 81 4 (e_un n_81_4) := u_ifeqT rfl (s_ifeq (off := (142)) hq_81 (by decide +kernel) rfl rfl : e_Sn 81 4 (o_ifeq 146 7)) t_81_146 t_81_7
noncomputable def n_81_1 : e_Y := u_callV 16 86 2 21 1 n_86_0 n_81_4
theorem t_81_1 : e_Sn 81 1 (e_un n_81_1) := u_callVT rfl (s_callV (ci := 16) (C := er_16) (T := et_16) (N := 5) (index := 46) hq_81 ho_81 hy_86 hp_86 hc_86 hi_86 hd_86 (List.mem_of_getElem? (i := 2172) (by decide +kernel)) hs_86 (List.mem_of_getElem? (i := 76) (by decide +kernel)) rfl (by decide +kernel) rfl : e_Sn 81 1 (o_callV (e_s1 16 86 2) 1 4)) t_86_0 t_81_4
noncomputable def n_81_0 : e_Y := u_ld f_okA f_l0 n_81_1
theorem t_81_0 : e_Sn 81 0 (e_un n_81_0) := u_ldAT f_l0_eq (s_aload (i := .aload_n 0) (len := 1) hq_81 (by decide +kernel) rfl (.inr ⟨0, rfl, rfl, rfl⟩) : e_Sn 81 0 (o_load e_okR 0 1)) t_81_1
noncomputable def e_tb_81 : e_X := (e_lf 0 (e_un n_81_0))
theorem e_tk_81 : e_Tb 81 e_tb_81 := (e_lfT t_81_0)
theorem hq_70 : (e_ml[70]?).map (·.2.1) = some prog_14_method_31_code := rfl
theorem ho_70 : (e_ml[70]?).map (·.1.cls) = some "PlateroomprinterModel" := rfl
theorem hr_70 : (e_ml[70]?).map (·.2.2.2) = some (some .int) := rfl
noncomputable def n_70_74 : e_Y := u_retI
theorem t_70_74 : e_Sn 70 74 (e_un n_70_74) := u_retIT (s_iret hq_70 hr_70 (by decide +kernel) : e_Sn 70 74 (o_ret e_okI))
noncomputable def n_70_71 : e_Y := u_callV 12 65 4 23 4 n_65_0 n_70_74
theorem t_70_71 : e_Sn 70 71 (e_un n_70_71) := u_callVT rfl (s_callV (ci := 12) (C := er_12) (T := et_12) (N := 5) (index := 177) hq_70 ho_70 hy_65 hp_65 hc_65 hi_65 hd_65 (List.mem_of_getElem? (i := 2891) (by decide +kernel)) hs_65 (List.mem_of_getElem? (i := 121) (by decide +kernel)) rfl (by decide +kernel) rfl : e_Sn 70 71 (o_callV (e_s1 12 65 4) 4 74)) t_65_0 t_70_74
noncomputable def n_70_70 : e_Y := u_push (.inl 2147483647) n_70_71
theorem t_70_70 : e_Sn 70 70 (e_un n_70_70) := u_pushT (s_iconst (n := (-1)) hq_70 (by decide +kernel) rfl ⟨by decide +kernel, by decide +kernel⟩ : e_Sn 70 70 (o_push (.inl 2147483647) 71)) t_70_71
noncomputable def n_70_69 : e_Y := u_push (.inl 2147483647) n_70_70
theorem t_70_69 : e_Sn 70 69 (e_un n_70_69) := u_pushT (s_iconst (n := (-1)) hq_70 (by decide +kernel) rfl ⟨by decide +kernel, by decide +kernel⟩ : e_Sn 70 69 (o_push (.inl 2147483647) 70)) t_70_70
noncomputable def n_70_68 : e_Y := u_push (.inl 2147483648) n_70_69
theorem t_70_68 : e_Sn 70 68 (e_un n_70_68) := u_pushT (s_iconst (n := (0)) hq_70 (by decide +kernel) rfl ⟨by decide +kernel, by decide +kernel⟩ : e_Sn 70 68 (o_push (.inl 2147483648) 69)) t_70_69
noncomputable def n_70_67 : e_Y := u_ld f_okA f_l0 n_70_68
theorem t_70_67 : e_Sn 70 67 (e_un n_70_67) := u_ldAT f_l0_eq (s_aload (i := .aload_n 0) (len := 1) hq_70 (by decide +kernel) rfl (.inr ⟨0, rfl, rfl, rfl⟩) : e_Sn 70 67 (o_load e_okR 0 68)) t_70_68
noncomputable def n_70_64 : e_Y := u_old (o_putf (e_f1 12 2) e_okR 67) n_70_67
theorem t_70_64 : e_Sn 70 64 (e_un n_70_64) := u_oldT (s_putf (ty0 := ey_12) (ok := e_okR) (C := er_12) (T := et_12) (N := 5) (ref := "PlateroomprinterModel") (index := 19) (ci := 12) (k := 2) hq_70 ho_70 ⟨rfl, by decide, ei_12, (List.mem_of_getElem? (i := 1960) (by decide +kernel)), .inl rfl⟩ eo_12 en_12 e_oksR (.inl rfl) (by decide +kernel) rfl : e_Sn 70 64 (o_putf (e_f1 12 2) e_okR 67)) t_70_67 (e_cg_putf (e_f1 12 2) e_okR)
noncomputable def n_70_61 : e_Y := u_tab (o_callI 106 1 1 64)
theorem t_70_61 : e_Sn 70 61 (e_un n_70_61) := u_tabT (s_callI (index := 18) hq_70 ho_70 hy_106 hp_106 hc_106 hi_106 hd_106 (List.mem_of_getElem? (i := 1957) (by decide +kernel)) rfl rfl hs_106 (by decide +kernel) rfl : e_Sn 70 61 (o_callI 106 1 1 64))
noncomputable def n_70_60 : e_Y := u_old (o_dup 61) n_70_61
theorem t_70_60 : e_Sn 70 60 (e_un n_70_60) := u_oldT (s_dup hq_70 (by decide +kernel) rfl : e_Sn 70 60 (o_dup 61)) t_70_61 e_cg_dup
noncomputable def n_70_57 : e_Y := u_tab (o_new 19 3 ef_19 60)
theorem t_70_57 : e_Sn 70 57 (e_un n_70_57) := u_tabT (s_new (index := 16) (ci := 19) (N := 3) (C := er_19) (T := et_19) (ty0 := ey_19) (fv := eg_19) hq_70 ho_70 rfl ei_19 eo_19 (List.mem_of_getElem? (i := 1956) (by decide +kernel)) (List.mem_of_getElem? (i := 1751) (by decide +kernel)) (List.mem_of_getElem? (i := 155) (by decide +kernel)) eh_19 rfl (e_newrel ek_19) (by decide +kernel) rfl : e_Sn 70 57 (o_new 19 3 ef_19 60))
noncomputable def n_70_56 : e_Y := u_ld f_okA f_l0 n_70_57
theorem t_70_56 : e_Sn 70 56 (e_un n_70_56) := u_ldAT f_l0_eq (s_aload (i := .aload_n 0) (len := 1) hq_70 (by decide +kernel) rfl (.inr ⟨0, rfl, rfl, rfl⟩) : e_Sn 70 56 (o_load e_okR 0 57)) t_70_57
noncomputable def n_70_53 : e_Y := u_old (o_putf (e_f1 12 1) e_okR 56) n_70_56
theorem t_70_53 : e_Sn 70 53 (e_un n_70_53) := u_oldT (s_putf (ty0 := ey_12) (ok := e_okR) (C := er_12) (T := et_12) (N := 5) (ref := "PlateroomprinterModel") (index := 10) (ci := 12) (k := 1) hq_70 ho_70 ⟨rfl, by decide, ei_12, (List.mem_of_getElem? (i := 1959) (by decide +kernel)), .inl rfl⟩ eo_12 en_12 e_oksR (.inl rfl) (by decide +kernel) rfl : e_Sn 70 53 (o_putf (e_f1 12 1) e_okR 56)) t_70_56 (e_cg_putf (e_f1 12 1) e_okR)
noncomputable def n_70_52 : e_Y := u_ld f_okA f_l1 n_70_53
theorem t_70_52 : e_Sn 70 52 (e_un n_70_52) := u_ldAT f_l1_eq (s_aload (i := .aload_n 1) (len := 1) hq_70 (by decide +kernel) rfl (.inr ⟨1, rfl, rfl, rfl⟩) : e_Sn 70 52 (o_load e_okR 1 53)) t_70_53
noncomputable def n_70_51 : e_Y := u_ld f_okA f_l0 n_70_52
theorem t_70_51 : e_Sn 70 51 (e_un n_70_51) := u_ldAT f_l0_eq (s_aload (i := .aload_n 0) (len := 1) hq_70 (by decide +kernel) rfl (.inr ⟨0, rfl, rfl, rfl⟩) : e_Sn 70 51 (o_load e_okR 0 52)) t_70_52
noncomputable def n_70_30 : e_Y := n_70_51
theorem t_70_30 : e_Sn 70 30 (e_un n_70_30) := u_gotoT (s_goto (off := (21)) hq_70 (by decide +kernel) rfl : e_Sn 70 30 (o_goto 51)) t_70_51
noncomputable def n_70_27 : e_Y := u_callV 16 81 2 21 1 n_81_0 n_70_30
theorem t_70_27 : e_Sn 70 27 (e_un n_70_27) := u_callVT rfl (s_callV (ci := 16) (C := er_16) (T := et_16) (N := 5) (index := 166) hq_70 ho_70 hy_81 hp_81 hc_81 hi_81 hd_81 (List.mem_of_getElem? (i := 2168) (by decide +kernel)) hs_81 (List.mem_of_getElem? (i := 2170) (by decide +kernel)) rfl (by decide +kernel) rfl : e_Sn 70 27 (o_callV (e_s1 16 81 2) 1 30)) t_81_0 t_70_30
noncomputable def n_70_26 : e_Y := u_ld f_okA f_l2 n_70_27
theorem t_70_26 : e_Sn 70 26 (e_un n_70_26) := u_ldAT f_l2_eq (s_aload (i := .aload_n 2) (len := 1) hq_70 (by decide +kernel) rfl (.inr ⟨2, rfl, rfl, rfl⟩) : e_Sn 70 26 (o_load e_okR 2 27)) t_70_27
noncomputable def n_70_25 : e_Y := u_st f_okA f_s2 n_70_26
theorem t_70_25 : e_Sn 70 25 (e_un n_70_25) := u_stAT (fun _ _ _ => f_s2_eq) (s_astore (i := .astore_n 2) (len := 1) hq_70 (by decide +kernel) rfl (.inr ⟨2, rfl, rfl, rfl⟩) : e_Sn 70 25 (o_store e_okR 2 26)) t_70_26
noncomputable def n_70_22 : e_Y := u_tab (o_callI 80 3 3 25)
theorem t_70_22 : e_Sn 70 22 (e_un n_70_22) := u_tabT (s_callI (index := 163) hq_70 ho_70 hy_80 hp_80 hc_80 hi_80 hd_80 (List.mem_of_getElem? (i := 2110) (by decide +kernel)) rfl rfl hs_80 (by decide +kernel) rfl : e_Sn 70 22 (o_callI 80 3 3 25))
noncomputable def n_70_19 : e_Y := u_getf 12 2 (u_old (o_getf (e_f1 12 2) 22) n_70_22) n_70_22
theorem t_70_19 : e_Sn 70 19 (e_un n_70_19) := u_getfT (s_getf (C := er_12) (T := et_12) (N := 5) (ref := "PlateroomprinterModel") (index := 19) (ci := 12) (k := 2) hq_70 ho_70 ⟨rfl, by decide, ei_12, (List.mem_of_getElem? (i := 1960) (by decide +kernel)), .inl rfl⟩ (by decide +kernel) rfl : e_Sn 70 19 (o_getf (e_f1 12 2) 22)) t_70_22
noncomputable def n_70_18 : e_Y := u_ld f_okA f_l0 n_70_19
theorem t_70_18 : e_Sn 70 18 (e_un n_70_18) := u_ldAT f_l0_eq (s_aload (i := .aload_n 0) (len := 1) hq_70 (by decide +kernel) rfl (.inr ⟨0, rfl, rfl, rfl⟩) : e_Sn 70 18 (o_load e_okR 0 19)) t_70_19
noncomputable def n_70_17 : e_Y := u_ld f_okA f_l1 n_70_18
theorem t_70_17 : e_Sn 70 17 (e_un n_70_17) := u_ldAT f_l1_eq (s_aload (i := .aload_n 1) (len := 1) hq_70 (by decide +kernel) rfl (.inr ⟨1, rfl, rfl, rfl⟩) : e_Sn 70 17 (o_load e_okR 1 18)) t_70_18
noncomputable def n_70_16 : e_Y := u_old (o_dup 17) n_70_17
theorem t_70_16 : e_Sn 70 16 (e_un n_70_16) := u_oldT (s_dup hq_70 (by decide +kernel) rfl : e_Sn 70 16 (o_dup 17)) t_70_17 e_cg_dup
noncomputable def n_70_13 : e_Y := u_tab (o_new 16 5 ef_16 16)
theorem t_70_13 : e_Sn 70 13 (e_un n_70_13) := u_tabT (s_new (index := 161) (ci := 16) (N := 5) (C := er_16) (T := et_16) (ty0 := ey_16) (fv := eg_16) hq_70 ho_70 rfl ei_16 eo_16 (List.mem_of_getElem? (i := 2108) (by decide +kernel)) (List.mem_of_getElem? (i := 2109) (by decide +kernel)) (List.mem_of_getElem? (i := 170) (by decide +kernel)) eh_16 rfl (e_newrel ek_16) (by decide +kernel) rfl : e_Sn 70 13 (o_new 16 5 ef_16 16))
noncomputable def n_70_12 : e_Y := u_st f_okA f_s1 n_70_13
theorem t_70_12 : e_Sn 70 12 (e_un n_70_12) := u_stAT (fun _ _ _ => f_s1_eq) (s_astore (i := .astore_n 1) (len := 1) hq_70 (by decide +kernel) rfl (.inr ⟨1, rfl, rfl, rfl⟩) : e_Sn 70 12 (o_store e_okR 1 13)) t_70_13
noncomputable def n_70_9 : e_Y := u_callV 14 77 3 22 1 n_77_0 n_70_12
theorem t_70_9 : e_Sn 70 9 (e_un n_70_9) := u_callVT rfl (s_callV (ci := 14) (C := er_14) (T := et_14) (N := 13) (index := 158) hq_70 ho_70 hy_77 hp_77 hc_77 hi_77 hd_77 (List.mem_of_getElem? (i := 2042) (by decide +kernel)) hs_77 (List.mem_of_getElem? (i := 2044) (by decide +kernel)) rfl (by decide +kernel) rfl : e_Sn 70 9 (o_callV (e_s1 14 77 3) 1 12)) t_77_0 t_70_12
noncomputable def n_70_6 : e_Y := u_getf 12 1 (u_old (o_getf (e_f1 12 1) 9) n_70_9) n_70_9
theorem t_70_6 : e_Sn 70 6 (e_un n_70_6) := u_getfT (s_getf (C := er_12) (T := et_12) (N := 5) (ref := "PlateroomprinterModel") (index := 10) (ci := 12) (k := 1) hq_70 ho_70 ⟨rfl, by decide, ei_12, (List.mem_of_getElem? (i := 1959) (by decide +kernel)), .inl rfl⟩ (by decide +kernel) rfl : e_Sn 70 6 (o_getf (e_f1 12 1) 9)) t_70_9
noncomputable def n_70_5 : e_Y := u_ld f_okA f_l0 n_70_6
theorem t_70_5 : e_Sn 70 5 (e_un n_70_5) := u_ldAT f_l0_eq (s_aload (i := .aload_n 0) (len := 1) hq_70 (by decide +kernel) rfl (.inr ⟨0, rfl, rfl, rfl⟩) : e_Sn 70 5 (o_load e_okR 0 6)) t_70_6
noncomputable def n_70_2 : e_Y := u_old (o_putf (e_f1 12 0) e_okI 5) n_70_5
theorem t_70_2 : e_Sn 70 2 (e_un n_70_2) := u_oldT (s_putf (ty0 := ey_12) (ok := e_okI) (C := er_12) (T := et_12) (N := 5) (ref := "PlateroomprinterModel") (index := 124) (ci := 12) (k := 0) hq_70 ho_70 ⟨rfl, by decide, ei_12, (List.mem_of_getElem? (i := 1958) (by decide +kernel)), .inl rfl⟩ eo_12 en_12 e_oksI (.inl rfl) (by decide +kernel) rfl : e_Sn 70 2 (o_putf (e_f1 12 0) e_okI 5)) t_70_5 (e_cg_putf (e_f1 12 0) e_okI)
noncomputable def n_70_1 : e_Y := u_push (.inl 2147483648) n_70_2
theorem t_70_1 : e_Sn 70 1 (e_un n_70_1) := u_pushT (s_iconst (n := (0)) hq_70 (by decide +kernel) rfl ⟨by decide +kernel, by decide +kernel⟩ : e_Sn 70 1 (o_push (.inl 2147483648) 2)) t_70_2
noncomputable def n_70_0 : e_Y := u_ld f_okA f_l0 n_70_1
theorem t_70_0 : e_Sn 70 0 (e_un n_70_0) := u_ldAT f_l0_eq (s_aload (i := .aload_n 0) (len := 1) hq_70 (by decide +kernel) rfl (.inr ⟨0, rfl, rfl, rfl⟩) : e_Sn 70 0 (o_load e_okR 0 1)) t_70_1
noncomputable def e_tb_70 : e_X := (e_br 25 (e_br 16 (e_lf 0 (e_un n_70_0)) (e_lf 16 (e_un n_70_16))) (e_br 60 (e_lf 25 (e_un n_70_25)) (e_br 64 (e_lf 60 (e_un n_70_60)) (e_lf 64 (e_un n_70_64)))))
theorem e_tk_70 : e_Tb 70 e_tb_70 := (e_brT (e_brT (e_lfT t_70_0) (e_lfT t_70_16)) (e_brT (e_lfT t_70_25) (e_brT (e_lfT t_70_60) (e_lfT t_70_64))))
theorem hq_71 : (e_ml[71]?).map (·.2.1) = some prog_14_method_24_code := rfl
theorem ho_71 : (e_ml[71]?).map (·.1.cls) = some "PlateroomprinterModel" := rfl
theorem hr_71 : (e_ml[71]?).map (·.2.2.2) = some (some .boolean) := rfl
noncomputable def n_71_11 : e_Y := u_tab (o_ret e_okZ)
theorem t_71_11 : e_Sn 71 11 (e_un n_71_11) := u_tabT (s_zret hq_71 hr_71 (by decide +kernel) : e_Sn 71 11 (o_ret e_okZ))
noncomputable def n_71_8 : e_Y := u_callV 12 69 3 22 3 n_69_0 n_71_11
theorem t_71_8 : e_Sn 71 8 (e_un n_71_8) := u_callVT rfl (s_callV (ci := 12) (C := er_12) (T := et_12) (N := 5) (index := 128) hq_71 ho_71 hy_69 hp_69 hc_69 hi_69 hd_69 (List.mem_of_getElem? (i := 1996) (by decide +kernel)) hs_69 (List.mem_of_getElem? (i := 74) (by decide +kernel)) rfl (by decide +kernel) rfl : e_Sn 71 8 (o_callV (e_s1 12 69 3) 3 11)) t_69_0 t_71_11
noncomputable def n_71_7 : e_Y := u_ld f_okI f_l2 n_71_8
theorem t_71_7 : e_Sn 71 7 (e_un n_71_7) := u_ldIT f_l2_eq (s_iload (i := .iload_n 2) (len := 1) hq_71 (by decide +kernel) rfl (.inr ⟨2, rfl, rfl, rfl⟩) : e_Sn 71 7 (o_load e_okI 2 8)) t_71_8
noncomputable def n_71_6 : e_Y := u_ld f_okI f_l1 n_71_7
theorem t_71_6 : e_Sn 71 6 (e_un n_71_6) := u_ldIT f_l1_eq (s_iload (i := .iload_n 1) (len := 1) hq_71 (by decide +kernel) rfl (.inr ⟨1, rfl, rfl, rfl⟩) : e_Sn 71 6 (o_load e_okI 1 7)) t_71_7
noncomputable def n_71_5 : e_Y := u_ld f_okA f_l0 n_71_6
theorem t_71_5 : e_Sn 71 5 (e_un n_71_5) := u_ldAT f_l0_eq (s_aload (i := .aload_n 0) (len := 1) hq_71 (by decide +kernel) rfl (.inr ⟨0, rfl, rfl, rfl⟩) : e_Sn 71 5 (o_load e_okR 0 6)) t_71_6
noncomputable def n_71_2 : e_Y := u_old (o_putf (e_f1 12 0) e_okI 5) n_71_5
theorem t_71_2 : e_Sn 71 2 (e_un n_71_2) := u_oldT (s_putf (ty0 := ey_12) (ok := e_okI) (C := er_12) (T := et_12) (N := 5) (ref := "PlateroomprinterModel") (index := 124) (ci := 12) (k := 0) hq_71 ho_71 ⟨rfl, by decide, ei_12, (List.mem_of_getElem? (i := 1958) (by decide +kernel)), .inl rfl⟩ eo_12 en_12 e_oksI (.inl rfl) (by decide +kernel) rfl : e_Sn 71 2 (o_putf (e_f1 12 0) e_okI 5)) t_71_5 (e_cg_putf (e_f1 12 0) e_okI)
noncomputable def n_71_1 : e_Y := u_push (.inl 2147483648) n_71_2
theorem t_71_1 : e_Sn 71 1 (e_un n_71_1) := u_pushT (s_iconst (n := (0)) hq_71 (by decide +kernel) rfl ⟨by decide +kernel, by decide +kernel⟩ : e_Sn 71 1 (o_push (.inl 2147483648) 2)) t_71_2
noncomputable def n_71_0 : e_Y := u_ld f_okA f_l0 n_71_1
theorem t_71_0 : e_Sn 71 0 (e_un n_71_0) := u_ldAT f_l0_eq (s_aload (i := .aload_n 0) (len := 1) hq_71 (by decide +kernel) rfl (.inr ⟨0, rfl, rfl, rfl⟩) : e_Sn 71 0 (o_load e_okR 0 1)) t_71_1
noncomputable def e_tb_71 : e_X := (e_lf 0 (e_un n_71_0))
theorem e_tk_71 : e_Tb 71 e_tb_71 := (e_lfT t_71_0)
theorem hq_72 : (e_ml[72]?).map (·.2.1) = some prog_14_method_27_code := rfl
theorem ho_72 : (e_ml[72]?).map (·.1.cls) = some "PlateroomprinterModel" := rfl
theorem hr_72 : (e_ml[72]?).map (·.2.2.2) = some (some .int) := rfl
noncomputable def n_72_139 : e_Y := u_retI
theorem t_72_139 : e_Sn 72 139 (e_un n_72_139) := u_retIT (s_iret hq_72 hr_72 (by decide +kernel) : e_Sn 72 139 (o_ret e_okI))
noncomputable def n_72_136 : e_Y := u_callV 19 117 1 20 1 n_117_0 n_72_139
theorem t_72_136 : e_Sn 72 136 (e_un n_72_136) := u_callVT rfl (s_callV (ci := 19) (C := er_19) (T := et_19) (N := 3) (index := 74) hq_72 ho_72 hy_117 hp_117 hc_117 hi_117 hd_117 (List.mem_of_getElem? (i := 2000) (by decide +kernel)) hs_117 (List.mem_of_getElem? (i := 2002) (by decide +kernel)) rfl (by decide +kernel) rfl : e_Sn 72 136 (o_callV (e_s1 19 117 1) 1 139)) t_117_0 t_72_139
noncomputable def n_72_133 : e_Y := u_getf 12 2 (u_old (o_getf (e_f1 12 2) 136) n_72_136) n_72_136
theorem t_72_133 : e_Sn 72 133 (e_un n_72_133) := u_getfT (s_getf (C := er_12) (T := et_12) (N := 5) (ref := "PlateroomprinterModel") (index := 19) (ci := 12) (k := 2) hq_72 ho_72 ⟨rfl, by decide, ei_12, (List.mem_of_getElem? (i := 1960) (by decide +kernel)), .inl rfl⟩ (by decide +kernel) rfl : e_Sn 72 133 (o_getf (e_f1 12 2) 136)) t_72_136
noncomputable def n_72_132 : e_Y := u_ld f_okA f_l0 n_72_133
theorem t_72_132 : e_Sn 72 132 (e_un n_72_132) := u_ldAT f_l0_eq (s_aload (i := .aload_n 0) (len := 1) hq_72 (by decide +kernel) rfl (.inr ⟨0, rfl, rfl, rfl⟩) : e_Sn 72 132 (o_load e_okR 0 133)) t_72_133
noncomputable def n_72_131 : e_Y := u_pop n_72_132
theorem t_72_131 : e_Sn 72 131 (e_un n_72_131) := u_popT (s_pop hq_72 (by decide +kernel) rfl : e_Sn 72 131 (o_pop 132)) t_72_132
noncomputable def n_72_128 : e_Y := u_callV 19 107 2 21 2 n_107_0 n_72_131
theorem t_72_128 : e_Sn 72 128 (e_un n_72_128) := u_callVT rfl (s_callV (ci := 19) (C := er_19) (T := et_19) (N := 3) (index := 88) hq_72 ho_72 hy_107 hp_107 hc_107 hi_107 hd_107 (List.mem_of_getElem? (i := 2004) (by decide +kernel)) hs_107 (List.mem_of_getElem? (i := 1822) (by decide +kernel)) rfl (by decide +kernel) rfl : e_Sn 72 128 (o_callV (e_s1 19 107 2) 2 131)) t_107_0 t_72_131
noncomputable def n_72_127 : e_Y := u_old (o_ast 0 e_okI 128) n_72_128
theorem t_72_127 : e_Sn 72 127 (e_un n_72_127) := u_oldT (s_iast hq_72 (by decide +kernel) rfl : e_Sn 72 127 (o_ast 0 e_okI 128)) t_72_128 (e_cg_ast 0 e_okI)
noncomputable def n_72_125 : e_Y := u_ld f_okI f_l6 n_72_127
theorem t_72_125 : e_Sn 72 125 (e_un n_72_125) := u_ldIT f_l6_eq (s_iload (i := .iload 6) (len := 2) hq_72 (by decide +kernel) rfl (.inl ⟨rfl, rfl⟩) : e_Sn 72 125 (o_load e_okI 6 127)) t_72_127
noncomputable def n_72_124 : e_Y := u_push (.inl 2147483649) n_72_125
theorem t_72_124 : e_Sn 72 124 (e_un n_72_124) := u_pushT (s_iconst (n := (1)) hq_72 (by decide +kernel) rfl ⟨by decide +kernel, by decide +kernel⟩ : e_Sn 72 124 (o_push (.inl 2147483649) 125)) t_72_125
noncomputable def n_72_123 : e_Y := u_old (o_dup 124) n_72_124
theorem t_72_123 : e_Sn 72 123 (e_un n_72_123) := u_oldT (s_dup hq_72 (by decide +kernel) rfl : e_Sn 72 123 (o_dup 124)) t_72_124 e_cg_dup
noncomputable def n_72_122 : e_Y := u_old (o_ast 0 e_okI 123) n_72_123
theorem t_72_122 : e_Sn 72 122 (e_un n_72_122) := u_oldT (s_iast hq_72 (by decide +kernel) rfl : e_Sn 72 122 (o_ast 0 e_okI 123)) t_72_123 (e_cg_ast 0 e_okI)
noncomputable def n_72_120 : e_Y := u_ld f_okI f_l5 n_72_122
theorem t_72_120 : e_Sn 72 120 (e_un n_72_120) := u_ldIT f_l5_eq (s_iload (i := .iload 5) (len := 2) hq_72 (by decide +kernel) rfl (.inl ⟨rfl, rfl⟩) : e_Sn 72 120 (o_load e_okI 5 122)) t_72_122
noncomputable def n_72_119 : e_Y := u_push (.inl 2147483648) n_72_120
theorem t_72_119 : e_Sn 72 119 (e_un n_72_119) := u_pushT (s_iconst (n := (0)) hq_72 (by decide +kernel) rfl ⟨by decide +kernel, by decide +kernel⟩ : e_Sn 72 119 (o_push (.inl 2147483648) 120)) t_72_120
noncomputable def n_72_118 : e_Y := u_old (o_dup 119) n_72_119
theorem t_72_118 : e_Sn 72 118 (e_un n_72_118) := u_oldT (s_dup hq_72 (by decide +kernel) rfl : e_Sn 72 118 (o_dup 119)) t_72_119 e_cg_dup
noncomputable def n_72_116 : e_Y := u_tab (o_newa 0 (e_I 2147483648) 118)
theorem t_72_116 : e_Sn 72 116 (e_un n_72_116) := u_tabT (s_newI (List.mem_of_getElem? (i := 215) (by decide +kernel)) hq_72 (by decide +kernel) rfl : e_Sn 72 116 (o_newa 0 (e_I 2147483648) 118))
noncomputable def n_72_115 : e_Y := u_push (.inl 2147483650) n_72_116
theorem t_72_115 : e_Sn 72 115 (e_un n_72_115) := u_pushT (s_iconst (n := (2)) hq_72 (by decide +kernel) rfl ⟨by decide +kernel, by decide +kernel⟩ : e_Sn 72 115 (o_push (.inl 2147483650) 116)) t_72_116
noncomputable def n_72_112 : e_Y := u_getf 12 2 (u_old (o_getf (e_f1 12 2) 115) n_72_115) n_72_115
theorem t_72_112 : e_Sn 72 112 (e_un n_72_112) := u_getfT (s_getf (C := er_12) (T := et_12) (N := 5) (ref := "PlateroomprinterModel") (index := 19) (ci := 12) (k := 2) hq_72 ho_72 ⟨rfl, by decide, ei_12, (List.mem_of_getElem? (i := 1960) (by decide +kernel)), .inl rfl⟩ (by decide +kernel) rfl : e_Sn 72 112 (o_getf (e_f1 12 2) 115)) t_72_115
noncomputable def n_72_111 : e_Y := u_ld f_okA f_l0 n_72_112
theorem t_72_111 : e_Sn 72 111 (e_un n_72_111) := u_ldAT f_l0_eq (s_aload (i := .aload_n 0) (len := 1) hq_72 (by decide +kernel) rfl (.inr ⟨0, rfl, rfl, rfl⟩) : e_Sn 72 111 (o_load e_okR 0 112)) t_72_112
noncomputable def n_72_110 : e_Y := u_pop n_72_111
theorem t_72_110 : e_Sn 72 110 (e_un n_72_110) := u_popT (s_pop hq_72 (by decide +kernel) rfl : e_Sn 72 110 (o_pop 111)) t_72_111
noncomputable def n_72_107 : e_Y := u_callV 19 107 2 21 2 n_107_0 n_72_110
theorem t_72_107 : e_Sn 72 107 (e_un n_72_107) := u_callVT rfl (s_callV (ci := 19) (C := er_19) (T := et_19) (N := 3) (index := 88) hq_72 ho_72 hy_107 hp_107 hc_107 hi_107 hd_107 (List.mem_of_getElem? (i := 2004) (by decide +kernel)) hs_107 (List.mem_of_getElem? (i := 1822) (by decide +kernel)) rfl (by decide +kernel) rfl : e_Sn 72 107 (o_callV (e_s1 19 107 2) 2 110)) t_107_0 t_72_110
noncomputable def n_72_106 : e_Y := u_old (o_ast 0 e_okI 107) n_72_107
theorem t_72_106 : e_Sn 72 106 (e_un n_72_106) := u_oldT (s_iast hq_72 (by decide +kernel) rfl : e_Sn 72 106 (o_ast 0 e_okI 107)) t_72_107 (e_cg_ast 0 e_okI)
noncomputable def n_72_104 : e_Y := u_ld f_okI f_l4 n_72_106
theorem t_72_104 : e_Sn 72 104 (e_un n_72_104) := u_ldIT f_l4_eq (s_iload (i := .iload 4) (len := 2) hq_72 (by decide +kernel) rfl (.inl ⟨rfl, rfl⟩) : e_Sn 72 104 (o_load e_okI 4 106)) t_72_106
noncomputable def n_72_103 : e_Y := u_push (.inl 2147483649) n_72_104
theorem t_72_103 : e_Sn 72 103 (e_un n_72_103) := u_pushT (s_iconst (n := (1)) hq_72 (by decide +kernel) rfl ⟨by decide +kernel, by decide +kernel⟩ : e_Sn 72 103 (o_push (.inl 2147483649) 104)) t_72_104
noncomputable def n_72_102 : e_Y := u_old (o_dup 103) n_72_103
theorem t_72_102 : e_Sn 72 102 (e_un n_72_102) := u_oldT (s_dup hq_72 (by decide +kernel) rfl : e_Sn 72 102 (o_dup 103)) t_72_103 e_cg_dup
noncomputable def n_72_101 : e_Y := u_old (o_ast 0 e_okI 102) n_72_102
theorem t_72_101 : e_Sn 72 101 (e_un n_72_101) := u_oldT (s_iast hq_72 (by decide +kernel) rfl : e_Sn 72 101 (o_ast 0 e_okI 102)) t_72_102 (e_cg_ast 0 e_okI)
noncomputable def n_72_100 : e_Y := u_ld f_okI f_l3 n_72_101
theorem t_72_100 : e_Sn 72 100 (e_un n_72_100) := u_ldIT f_l3_eq (s_iload (i := .iload_n 3) (len := 1) hq_72 (by decide +kernel) rfl (.inr ⟨3, rfl, rfl, rfl⟩) : e_Sn 72 100 (o_load e_okI 3 101)) t_72_101
noncomputable def n_72_99 : e_Y := u_push (.inl 2147483648) n_72_100
theorem t_72_99 : e_Sn 72 99 (e_un n_72_99) := u_pushT (s_iconst (n := (0)) hq_72 (by decide +kernel) rfl ⟨by decide +kernel, by decide +kernel⟩ : e_Sn 72 99 (o_push (.inl 2147483648) 100)) t_72_100
noncomputable def n_72_98 : e_Y := u_old (o_dup 99) n_72_99
theorem t_72_98 : e_Sn 72 98 (e_un n_72_98) := u_oldT (s_dup hq_72 (by decide +kernel) rfl : e_Sn 72 98 (o_dup 99)) t_72_99 e_cg_dup
noncomputable def n_72_96 : e_Y := u_tab (o_newa 0 (e_I 2147483648) 98)
theorem t_72_96 : e_Sn 72 96 (e_un n_72_96) := u_tabT (s_newI (List.mem_of_getElem? (i := 215) (by decide +kernel)) hq_72 (by decide +kernel) rfl : e_Sn 72 96 (o_newa 0 (e_I 2147483648) 98))
noncomputable def n_72_95 : e_Y := u_push (.inl 2147483650) n_72_96
theorem t_72_95 : e_Sn 72 95 (e_un n_72_95) := u_pushT (s_iconst (n := (2)) hq_72 (by decide +kernel) rfl ⟨by decide +kernel, by decide +kernel⟩ : e_Sn 72 95 (o_push (.inl 2147483650) 96)) t_72_96
noncomputable def n_72_92 : e_Y := u_getf 12 2 (u_old (o_getf (e_f1 12 2) 95) n_72_95) n_72_95
theorem t_72_92 : e_Sn 72 92 (e_un n_72_92) := u_getfT (s_getf (C := er_12) (T := et_12) (N := 5) (ref := "PlateroomprinterModel") (index := 19) (ci := 12) (k := 2) hq_72 ho_72 ⟨rfl, by decide, ei_12, (List.mem_of_getElem? (i := 1960) (by decide +kernel)), .inl rfl⟩ (by decide +kernel) rfl : e_Sn 72 92 (o_getf (e_f1 12 2) 95)) t_72_95
noncomputable def n_72_91 : e_Y := u_ld f_okA f_l0 n_72_92
theorem t_72_91 : e_Sn 72 91 (e_un n_72_91) := u_ldAT f_l0_eq (s_aload (i := .aload_n 0) (len := 1) hq_72 (by decide +kernel) rfl (.inr ⟨0, rfl, rfl, rfl⟩) : e_Sn 72 91 (o_load e_okR 0 92)) t_72_92
noncomputable def n_72_90 : e_Y := u_pop n_72_91
theorem t_72_90 : e_Sn 72 90 (e_un n_72_90) := u_popT (s_pop hq_72 (by decide +kernel) rfl : e_Sn 72 90 (o_pop 91)) t_72_91
noncomputable def n_72_87 : e_Y := u_callV 19 107 2 21 2 n_107_0 n_72_90
theorem t_72_87 : e_Sn 72 87 (e_un n_72_87) := u_callVT rfl (s_callV (ci := 19) (C := er_19) (T := et_19) (N := 3) (index := 88) hq_72 ho_72 hy_107 hp_107 hc_107 hi_107 hd_107 (List.mem_of_getElem? (i := 2004) (by decide +kernel)) hs_107 (List.mem_of_getElem? (i := 1822) (by decide +kernel)) rfl (by decide +kernel) rfl : e_Sn 72 87 (o_callV (e_s1 19 107 2) 2 90)) t_107_0 t_72_90
noncomputable def n_72_86 : e_Y := u_old (o_ast 0 e_okI 87) n_72_87
theorem t_72_86 : e_Sn 72 86 (e_un n_72_86) := u_oldT (s_iast hq_72 (by decide +kernel) rfl : e_Sn 72 86 (o_ast 0 e_okI 87)) t_72_87 (e_cg_ast 0 e_okI)
noncomputable def n_72_85 : e_Y := u_ld f_okI f_l2 n_72_86
theorem t_72_85 : e_Sn 72 85 (e_un n_72_85) := u_ldIT f_l2_eq (s_iload (i := .iload_n 2) (len := 1) hq_72 (by decide +kernel) rfl (.inr ⟨2, rfl, rfl, rfl⟩) : e_Sn 72 85 (o_load e_okI 2 86)) t_72_86
noncomputable def n_72_84 : e_Y := u_push (.inl 2147483649) n_72_85
theorem t_72_84 : e_Sn 72 84 (e_un n_72_84) := u_pushT (s_iconst (n := (1)) hq_72 (by decide +kernel) rfl ⟨by decide +kernel, by decide +kernel⟩ : e_Sn 72 84 (o_push (.inl 2147483649) 85)) t_72_85
noncomputable def n_72_83 : e_Y := u_old (o_dup 84) n_72_84
theorem t_72_83 : e_Sn 72 83 (e_un n_72_83) := u_oldT (s_dup hq_72 (by decide +kernel) rfl : e_Sn 72 83 (o_dup 84)) t_72_84 e_cg_dup
noncomputable def n_72_82 : e_Y := u_old (o_ast 0 e_okI 83) n_72_83
theorem t_72_82 : e_Sn 72 82 (e_un n_72_82) := u_oldT (s_iast hq_72 (by decide +kernel) rfl : e_Sn 72 82 (o_ast 0 e_okI 83)) t_72_83 (e_cg_ast 0 e_okI)
noncomputable def n_72_81 : e_Y := u_ld f_okI f_l1 n_72_82
theorem t_72_81 : e_Sn 72 81 (e_un n_72_81) := u_ldIT f_l1_eq (s_iload (i := .iload_n 1) (len := 1) hq_72 (by decide +kernel) rfl (.inr ⟨1, rfl, rfl, rfl⟩) : e_Sn 72 81 (o_load e_okI 1 82)) t_72_82
noncomputable def n_72_80 : e_Y := u_push (.inl 2147483648) n_72_81
theorem t_72_80 : e_Sn 72 80 (e_un n_72_80) := u_pushT (s_iconst (n := (0)) hq_72 (by decide +kernel) rfl ⟨by decide +kernel, by decide +kernel⟩ : e_Sn 72 80 (o_push (.inl 2147483648) 81)) t_72_81
noncomputable def n_72_79 : e_Y := u_old (o_dup 80) n_72_80
theorem t_72_79 : e_Sn 72 79 (e_un n_72_79) := u_oldT (s_dup hq_72 (by decide +kernel) rfl : e_Sn 72 79 (o_dup 80)) t_72_80 e_cg_dup
noncomputable def n_72_77 : e_Y := u_tab (o_newa 0 (e_I 2147483648) 79)
theorem t_72_77 : e_Sn 72 77 (e_un n_72_77) := u_tabT (s_newI (List.mem_of_getElem? (i := 215) (by decide +kernel)) hq_72 (by decide +kernel) rfl : e_Sn 72 77 (o_newa 0 (e_I 2147483648) 79))
noncomputable def n_72_76 : e_Y := u_push (.inl 2147483650) n_72_77
theorem t_72_76 : e_Sn 72 76 (e_un n_72_76) := u_pushT (s_iconst (n := (2)) hq_72 (by decide +kernel) rfl ⟨by decide +kernel, by decide +kernel⟩ : e_Sn 72 76 (o_push (.inl 2147483650) 77)) t_72_77
noncomputable def n_72_73 : e_Y := u_getf 12 2 (u_old (o_getf (e_f1 12 2) 76) n_72_76) n_72_76
theorem t_72_73 : e_Sn 72 73 (e_un n_72_73) := u_getfT (s_getf (C := er_12) (T := et_12) (N := 5) (ref := "PlateroomprinterModel") (index := 19) (ci := 12) (k := 2) hq_72 ho_72 ⟨rfl, by decide, ei_12, (List.mem_of_getElem? (i := 1960) (by decide +kernel)), .inl rfl⟩ (by decide +kernel) rfl : e_Sn 72 73 (o_getf (e_f1 12 2) 76)) t_72_76
noncomputable def n_72_72 : e_Y := u_ld f_okA f_l0 n_72_73
theorem t_72_72 : e_Sn 72 72 (e_un n_72_72) := u_ldAT f_l0_eq (s_aload (i := .aload_n 0) (len := 1) hq_72 (by decide +kernel) rfl (.inr ⟨0, rfl, rfl, rfl⟩) : e_Sn 72 72 (o_load e_okR 0 73)) t_72_73
noncomputable def n_72_67 : e_Y := u_if y_ne0 (u_old2 (o_ifeq 72 70) 72 n_72_72 (u_at 70)) n_72_72 (u_at 70)
theorem t_72_67 : e_Sn 72 67 (e_un n_72_67) := u_ifeqT rfl (s_ifeq (off := (5)) hq_72 (by decide +kernel) rfl rfl : e_Sn 72 67 (o_ifeq 72 70)) t_72_72 u_atT
noncomputable def n_72_64 : e_Y := u_callV 12 69 3 22 3 n_69_0 n_72_67
theorem t_72_64 : e_Sn 72 64 (e_un n_72_64) := u_callVT rfl (s_callV (ci := 12) (C := er_12) (T := et_12) (N := 5) (index := 128) hq_72 ho_72 hy_69 hp_69 hc_69 hi_69 hd_69 (List.mem_of_getElem? (i := 1996) (by decide +kernel)) hs_69 (List.mem_of_getElem? (i := 74) (by decide +kernel)) rfl (by decide +kernel) rfl : e_Sn 72 64 (o_callV (e_s1 12 69 3) 3 67)) t_69_0 t_72_67
noncomputable def n_72_63 : e_Y := u_push (.inl 2147483650) n_72_64
theorem t_72_63 : e_Sn 72 63 (e_un n_72_63) := u_pushT (s_iconst (n := (2)) hq_72 (by decide +kernel) rfl ⟨by decide +kernel, by decide +kernel⟩ : e_Sn 72 63 (o_push (.inl 2147483650) 64)) t_72_64
noncomputable def n_72_62 : e_Y := u_push (.inl 2147483648) n_72_63
theorem t_72_62 : e_Sn 72 62 (e_un n_72_62) := u_pushT (s_iconst (n := (0)) hq_72 (by decide +kernel) rfl ⟨by decide +kernel, by decide +kernel⟩ : e_Sn 72 62 (o_push (.inl 2147483648) 63)) t_72_63
noncomputable def n_72_55 : e_Y := u_jmp y_le (u_old2 (o_cgt 58 62) 58 (u_at 58) n_72_62) (u_at 58) n_72_62
theorem t_72_55 : e_Sn 72 55 (e_un n_72_55) := u_cgtT rfl (s_cle (off := (7)) hq_72 (by decide +kernel) rfl rfl : e_Sn 72 55 (o_cgt 58 62)) u_atT t_72_62
noncomputable def n_72_52 : e_Y := u_push (.inl 2147484045) n_72_55
theorem t_72_52 : e_Sn 72 52 (e_un n_72_52) := u_pushT (s_sipush (n := (397)) hq_72 (by decide +kernel) rfl ⟨by decide +kernel, by decide +kernel⟩ : e_Sn 72 52 (o_push (.inl 2147484045) 55)) t_72_55
noncomputable def n_72_49 : e_Y := u_callV 19 117 1 20 1 n_117_0 n_72_52
theorem t_72_49 : e_Sn 72 49 (e_un n_72_49) := u_callVT rfl (s_callV (ci := 19) (C := er_19) (T := et_19) (N := 3) (index := 74) hq_72 ho_72 hy_117 hp_117 hc_117 hi_117 hd_117 (List.mem_of_getElem? (i := 2000) (by decide +kernel)) hs_117 (List.mem_of_getElem? (i := 2002) (by decide +kernel)) rfl (by decide +kernel) rfl : e_Sn 72 49 (o_callV (e_s1 19 117 1) 1 52)) t_117_0 t_72_52
noncomputable def n_72_46 : e_Y := u_getf 12 2 (u_old (o_getf (e_f1 12 2) 49) n_72_49) n_72_49
theorem t_72_46 : e_Sn 72 46 (e_un n_72_46) := u_getfT (s_getf (C := er_12) (T := et_12) (N := 5) (ref := "PlateroomprinterModel") (index := 19) (ci := 12) (k := 2) hq_72 ho_72 ⟨rfl, by decide, ei_12, (List.mem_of_getElem? (i := 1960) (by decide +kernel)), .inl rfl⟩ (by decide +kernel) rfl : e_Sn 72 46 (o_getf (e_f1 12 2) 49)) t_72_49
noncomputable def n_72_45 : e_Y := u_ld f_okA f_l0 n_72_46
theorem t_72_45 : e_Sn 72 45 (e_un n_72_45) := u_ldAT f_l0_eq (s_aload (i := .aload_n 0) (len := 1) hq_72 (by decide +kernel) rfl (.inr ⟨0, rfl, rfl, rfl⟩) : e_Sn 72 45 (o_load e_okR 0 46)) t_72_46
noncomputable def n_72_44 : e_Y := u_ld f_okA f_l0 n_72_45
theorem t_72_44 : e_Sn 72 44 (e_un n_72_44) := u_ldAT f_l0_eq (s_aload (i := .aload_n 0) (len := 1) hq_72 (by decide +kernel) rfl (.inr ⟨0, rfl, rfl, rfl⟩) : e_Sn 72 44 (o_load e_okR 0 45)) t_72_45
noncomputable def n_72_41 : e_Y := u_if y_ne0 (u_old2 (o_ifeq 44 70) 44 n_72_44 (u_at 70)) n_72_44 (u_at 70)
theorem t_72_41 : e_Sn 72 41 (e_un n_72_41) := u_ifeqT rfl (s_ifne (off := (29)) hq_72 (by decide +kernel) rfl rfl : e_Sn 72 41 (o_ifeq 44 70)) t_72_44 u_atT
noncomputable def n_72_38 : e_Y := u_callV 12 71 3 22 3 n_71_0 n_72_41
theorem t_72_38 : e_Sn 72 38 (e_un n_72_38) := u_callVT rfl (s_callV (ci := 12) (C := er_12) (T := et_12) (N := 5) (index := 148) hq_72 ho_72 hy_71 hp_71 hc_71 hi_71 hd_71 (List.mem_of_getElem? (i := 1992) (by decide +kernel)) hs_71 (List.mem_of_getElem? (i := 73) (by decide +kernel)) rfl (by decide +kernel) rfl : e_Sn 72 38 (o_callV (e_s1 12 71 3) 3 41)) t_71_0 t_72_41
noncomputable def n_72_37 : e_Y := u_push (.inl 2147483649) n_72_38
theorem t_72_37 : e_Sn 72 37 (e_un n_72_37) := u_pushT (s_iconst (n := (1)) hq_72 (by decide +kernel) rfl ⟨by decide +kernel, by decide +kernel⟩ : e_Sn 72 37 (o_push (.inl 2147483649) 38)) t_72_38
noncomputable def n_72_35 : e_Y := u_ld f_okI f_l7 n_72_37
theorem t_72_35 : e_Sn 72 35 (e_un n_72_35) := u_ldIT f_l7_eq (s_iload (i := .iload 7) (len := 2) hq_72 (by decide +kernel) rfl (.inl ⟨rfl, rfl⟩) : e_Sn 72 35 (o_load e_okI 7 37)) t_72_37
noncomputable def n_72_34 : e_Y := u_ld f_okA f_l0 n_72_35
theorem t_72_34 : e_Sn 72 34 (e_un n_72_34) := u_ldAT f_l0_eq (s_aload (i := .aload_n 0) (len := 1) hq_72 (by decide +kernel) rfl (.inr ⟨0, rfl, rfl, rfl⟩) : e_Sn 72 34 (o_load e_okR 0 35)) t_72_35
noncomputable def n_72_32 : e_Y := u_st f_okI f_s7 n_72_34
theorem t_72_32 : e_Sn 72 32 (e_un n_72_32) := u_stIT (fun _ _ _ => f_s7_eq) (s_istore (i := .istore 7) (len := 2) hq_72 (by decide +kernel) rfl (.inl ⟨rfl, rfl⟩) : e_Sn 72 32 (o_store e_okI 7 34)) t_72_34
noncomputable def n_72_31 : e_Y := u_push (.inl 2147483648) n_72_32
theorem t_72_31 : e_Sn 72 31 (e_un n_72_31) := u_pushT (s_iconst (n := (0)) hq_72 (by decide +kernel) rfl ⟨by decide +kernel, by decide +kernel⟩ : e_Sn 72 31 (o_push (.inl 2147483648) 32)) t_72_32
noncomputable def n_72_24 : e_Y := u_if y_ne0 (u_old2 (o_ifeq 31 27) 31 n_72_31 (u_at 27)) n_72_31 (u_at 27)
theorem t_72_24 : e_Sn 72 24 (e_un n_72_24) := u_ifeqT rfl (s_ifeq (off := (7)) hq_72 (by decide +kernel) rfl rfl : e_Sn 72 24 (o_ifeq 31 27)) t_72_31 u_atT
noncomputable def n_72_21 : e_Y := u_callS 67 2 21 2 n_67_0 n_72_24
theorem t_72_21 : e_Sn 72 21 (e_un n_72_21) := u_callST rfl (s_callS (index := 144) hq_72 ho_72 hy_67 hp_67 hc_67 hi_67 hd_67 (List.mem_of_getElem? (i := 1982) (by decide +kernel)) hs_67 (by decide +kernel) rfl : e_Sn 72 21 (o_callS 67 2 2 24)) t_67_0 t_72_24
noncomputable def n_72_19 : e_Y := u_ld f_okI f_l6 n_72_21
theorem t_72_19 : e_Sn 72 19 (e_un n_72_19) := u_ldIT f_l6_eq (s_iload (i := .iload 6) (len := 2) hq_72 (by decide +kernel) rfl (.inl ⟨rfl, rfl⟩) : e_Sn 72 19 (o_load e_okI 6 21)) t_72_21
noncomputable def n_72_17 : e_Y := u_ld f_okI f_l5 n_72_19
theorem t_72_17 : e_Sn 72 17 (e_un n_72_17) := u_ldIT f_l5_eq (s_iload (i := .iload 5) (len := 2) hq_72 (by decide +kernel) rfl (.inl ⟨rfl, rfl⟩) : e_Sn 72 17 (o_load e_okI 5 19)) t_72_19
noncomputable def n_72_14 : e_Y := u_if y_ne0 (u_old2 (o_ifeq 17 27) 17 n_72_17 (u_at 27)) n_72_17 (u_at 27)
theorem t_72_14 : e_Sn 72 14 (e_un n_72_14) := u_ifeqT rfl (s_ifne (off := (13)) hq_72 (by decide +kernel) rfl rfl : e_Sn 72 14 (o_ifeq 17 27)) t_72_17 u_atT
noncomputable def n_72_11 : e_Y := u_callS 67 2 21 2 n_67_0 n_72_14
theorem t_72_11 : e_Sn 72 11 (e_un n_72_11) := u_callST rfl (s_callS (index := 144) hq_72 ho_72 hy_67 hp_67 hc_67 hi_67 hd_67 (List.mem_of_getElem? (i := 1982) (by decide +kernel)) hs_67 (by decide +kernel) rfl : e_Sn 72 11 (o_callS 67 2 2 14)) t_67_0 t_72_14
noncomputable def n_72_9 : e_Y := u_ld f_okI f_l4 n_72_11
theorem t_72_9 : e_Sn 72 9 (e_un n_72_9) := u_ldIT f_l4_eq (s_iload (i := .iload 4) (len := 2) hq_72 (by decide +kernel) rfl (.inl ⟨rfl, rfl⟩) : e_Sn 72 9 (o_load e_okI 4 11)) t_72_11
noncomputable def n_72_8 : e_Y := u_ld f_okI f_l3 n_72_9
theorem t_72_8 : e_Sn 72 8 (e_un n_72_8) := u_ldIT f_l3_eq (s_iload (i := .iload_n 3) (len := 1) hq_72 (by decide +kernel) rfl (.inr ⟨3, rfl, rfl, rfl⟩) : e_Sn 72 8 (o_load e_okI 3 9)) t_72_9
noncomputable def n_72_5 : e_Y := u_if y_ne0 (u_old2 (o_ifeq 8 27) 8 n_72_8 (u_at 27)) n_72_8 (u_at 27)
theorem t_72_5 : e_Sn 72 5 (e_un n_72_5) := u_ifeqT rfl (s_ifne (off := (22)) hq_72 (by decide +kernel) rfl rfl : e_Sn 72 5 (o_ifeq 8 27)) t_72_8 u_atT
noncomputable def n_72_2 : e_Y := u_callS 67 2 21 2 n_67_0 n_72_5
theorem t_72_2 : e_Sn 72 2 (e_un n_72_2) := u_callST rfl (s_callS (index := 144) hq_72 ho_72 hy_67 hp_67 hc_67 hi_67 hd_67 (List.mem_of_getElem? (i := 1982) (by decide +kernel)) hs_67 (by decide +kernel) rfl : e_Sn 72 2 (o_callS 67 2 2 5)) t_67_0 t_72_5
noncomputable def n_72_1 : e_Y := u_ld f_okI f_l2 n_72_2
theorem t_72_1 : e_Sn 72 1 (e_un n_72_1) := u_ldIT f_l2_eq (s_iload (i := .iload_n 2) (len := 1) hq_72 (by decide +kernel) rfl (.inr ⟨2, rfl, rfl, rfl⟩) : e_Sn 72 1 (o_load e_okI 2 2)) t_72_2
noncomputable def n_72_0 : e_Y := u_ld f_okI f_l1 n_72_1
theorem t_72_0 : e_Sn 72 0 (e_un n_72_0) := u_ldIT f_l1_eq (s_iload (i := .iload_n 1) (len := 1) hq_72 (by decide +kernel) rfl (.inr ⟨1, rfl, rfl, rfl⟩) : e_Sn 72 0 (o_load e_okI 1 1)) t_72_1
noncomputable def e_tb_72 : e_X := (e_br 98 (e_br 79 (e_lf 0 (e_un n_72_0)) (e_lf 79 (e_un n_72_79))) (e_br 118 (e_lf 98 (e_un n_72_98)) (e_lf 118 (e_un n_72_118))))
theorem e_tk_72 : e_Tb 72 e_tb_72 := (e_brT (e_brT (e_lfT t_72_0) (e_lfT t_72_79)) (e_brT (e_lfT t_72_98) (e_lfT t_72_118)))
theorem hq_73 : (e_ml[73]?).map (·.2.1) = some prog_14_method_22_code := rfl
theorem ho_73 : (e_ml[73]?).map (·.1.cls) = some "PlateroomprinterModel" := rfl
theorem hr_73 : (e_ml[73]?).map (·.2.2.2) = some (some .int) := rfl
noncomputable def n_73_4 : e_Y := u_retI
theorem t_73_4 : e_Sn 73 4 (e_un n_73_4) := u_retIT (s_iret hq_73 hr_73 (by decide +kernel) : e_Sn 73 4 (o_ret e_okI))
noncomputable def n_73_1 : e_Y := u_getf 12 0 (u_old (o_getf (e_f1 12 0) 4) n_73_4) n_73_4
theorem t_73_1 : e_Sn 73 1 (e_un n_73_1) := u_getfT (s_getf (C := er_12) (T := et_12) (N := 5) (ref := "PlateroomprinterModel") (index := 124) (ci := 12) (k := 0) hq_73 ho_73 ⟨rfl, by decide, ei_12, (List.mem_of_getElem? (i := 1958) (by decide +kernel)), .inl rfl⟩ (by decide +kernel) rfl : e_Sn 73 1 (o_getf (e_f1 12 0) 4)) t_73_4
noncomputable def n_73_0 : e_Y := u_ld f_okA f_l0 n_73_1
theorem t_73_0 : e_Sn 73 0 (e_un n_73_0) := u_ldAT f_l0_eq (s_aload (i := .aload_n 0) (len := 1) hq_73 (by decide +kernel) rfl (.inr ⟨0, rfl, rfl, rfl⟩) : e_Sn 73 0 (o_load e_okR 0 1)) t_73_1
noncomputable def e_tb_73 : e_X := (e_lf 0 (e_un n_73_0))
theorem e_tk_73 : e_Tb 73 e_tb_73 := (e_lfT t_73_0)
theorem hq_74 : (e_ml[74]?).map (·.2.1) = some prog_14_method_26_code := rfl
theorem ho_74 : (e_ml[74]?).map (·.1.cls) = some "PlateroomprinterModel" := rfl
theorem hr_74 : (e_ml[74]?).map (·.2.2.2) = some (some .int) := rfl
noncomputable def n_74_67 : e_Y := u_retI
theorem t_74_67 : e_Sn 74 67 (e_un n_74_67) := u_retIT (s_iret hq_74 hr_74 (by decide +kernel) : e_Sn 74 67 (o_ret e_okI))
noncomputable def n_74_64 : e_Y := u_callV 19 117 1 20 1 n_117_0 n_74_67
theorem t_74_64 : e_Sn 74 64 (e_un n_74_64) := u_callVT rfl (s_callV (ci := 19) (C := er_19) (T := et_19) (N := 3) (index := 74) hq_74 ho_74 hy_117 hp_117 hc_117 hi_117 hd_117 (List.mem_of_getElem? (i := 2000) (by decide +kernel)) hs_117 (List.mem_of_getElem? (i := 2002) (by decide +kernel)) rfl (by decide +kernel) rfl : e_Sn 74 64 (o_callV (e_s1 19 117 1) 1 67)) t_117_0 t_74_67
noncomputable def n_74_61 : e_Y := u_getf 12 2 (u_old (o_getf (e_f1 12 2) 64) n_74_64) n_74_64
theorem t_74_61 : e_Sn 74 61 (e_un n_74_61) := u_getfT (s_getf (C := er_12) (T := et_12) (N := 5) (ref := "PlateroomprinterModel") (index := 19) (ci := 12) (k := 2) hq_74 ho_74 ⟨rfl, by decide, ei_12, (List.mem_of_getElem? (i := 1960) (by decide +kernel)), .inl rfl⟩ (by decide +kernel) rfl : e_Sn 74 61 (o_getf (e_f1 12 2) 64)) t_74_64
noncomputable def n_74_60 : e_Y := u_ld f_okA f_l0 n_74_61
theorem t_74_60 : e_Sn 74 60 (e_un n_74_60) := u_ldAT f_l0_eq (s_aload (i := .aload_n 0) (len := 1) hq_74 (by decide +kernel) rfl (.inr ⟨0, rfl, rfl, rfl⟩) : e_Sn 74 60 (o_load e_okR 0 61)) t_74_61
noncomputable def n_74_59 : e_Y := u_pop n_74_60
theorem t_74_59 : e_Sn 74 59 (e_un n_74_59) := u_popT (s_pop hq_74 (by decide +kernel) rfl : e_Sn 74 59 (o_pop 60)) t_74_60
noncomputable def n_74_56 : e_Y := u_callV 19 107 2 21 2 n_107_0 n_74_59
theorem t_74_56 : e_Sn 74 56 (e_un n_74_56) := u_callVT rfl (s_callV (ci := 19) (C := er_19) (T := et_19) (N := 3) (index := 88) hq_74 ho_74 hy_107 hp_107 hc_107 hi_107 hd_107 (List.mem_of_getElem? (i := 2004) (by decide +kernel)) hs_107 (List.mem_of_getElem? (i := 1822) (by decide +kernel)) rfl (by decide +kernel) rfl : e_Sn 74 56 (o_callV (e_s1 19 107 2) 2 59)) t_107_0 t_74_59
noncomputable def n_74_55 : e_Y := u_old (o_ast 0 e_okI 56) n_74_56
theorem t_74_55 : e_Sn 74 55 (e_un n_74_55) := u_oldT (s_iast hq_74 (by decide +kernel) rfl : e_Sn 74 55 (o_ast 0 e_okI 56)) t_74_56 (e_cg_ast 0 e_okI)
noncomputable def n_74_54 : e_Y := u_ld f_okI f_l2 n_74_55
theorem t_74_54 : e_Sn 74 54 (e_un n_74_54) := u_ldIT f_l2_eq (s_iload (i := .iload_n 2) (len := 1) hq_74 (by decide +kernel) rfl (.inr ⟨2, rfl, rfl, rfl⟩) : e_Sn 74 54 (o_load e_okI 2 55)) t_74_55
noncomputable def n_74_53 : e_Y := u_push (.inl 2147483649) n_74_54
theorem t_74_53 : e_Sn 74 53 (e_un n_74_53) := u_pushT (s_iconst (n := (1)) hq_74 (by decide +kernel) rfl ⟨by decide +kernel, by decide +kernel⟩ : e_Sn 74 53 (o_push (.inl 2147483649) 54)) t_74_54
noncomputable def n_74_52 : e_Y := u_old (o_dup 53) n_74_53
theorem t_74_52 : e_Sn 74 52 (e_un n_74_52) := u_oldT (s_dup hq_74 (by decide +kernel) rfl : e_Sn 74 52 (o_dup 53)) t_74_53 e_cg_dup
noncomputable def n_74_51 : e_Y := u_old (o_ast 0 e_okI 52) n_74_52
theorem t_74_51 : e_Sn 74 51 (e_un n_74_51) := u_oldT (s_iast hq_74 (by decide +kernel) rfl : e_Sn 74 51 (o_ast 0 e_okI 52)) t_74_52 (e_cg_ast 0 e_okI)
noncomputable def n_74_50 : e_Y := u_ld f_okI f_l1 n_74_51
theorem t_74_50 : e_Sn 74 50 (e_un n_74_50) := u_ldIT f_l1_eq (s_iload (i := .iload_n 1) (len := 1) hq_74 (by decide +kernel) rfl (.inr ⟨1, rfl, rfl, rfl⟩) : e_Sn 74 50 (o_load e_okI 1 51)) t_74_51
noncomputable def n_74_49 : e_Y := u_push (.inl 2147483648) n_74_50
theorem t_74_49 : e_Sn 74 49 (e_un n_74_49) := u_pushT (s_iconst (n := (0)) hq_74 (by decide +kernel) rfl ⟨by decide +kernel, by decide +kernel⟩ : e_Sn 74 49 (o_push (.inl 2147483648) 50)) t_74_50
noncomputable def n_74_48 : e_Y := u_old (o_dup 49) n_74_49
theorem t_74_48 : e_Sn 74 48 (e_un n_74_48) := u_oldT (s_dup hq_74 (by decide +kernel) rfl : e_Sn 74 48 (o_dup 49)) t_74_49 e_cg_dup
noncomputable def n_74_46 : e_Y := u_tab (o_newa 0 (e_I 2147483648) 48)
theorem t_74_46 : e_Sn 74 46 (e_un n_74_46) := u_tabT (s_newI (List.mem_of_getElem? (i := 215) (by decide +kernel)) hq_74 (by decide +kernel) rfl : e_Sn 74 46 (o_newa 0 (e_I 2147483648) 48))
noncomputable def n_74_45 : e_Y := u_push (.inl 2147483650) n_74_46
theorem t_74_45 : e_Sn 74 45 (e_un n_74_45) := u_pushT (s_iconst (n := (2)) hq_74 (by decide +kernel) rfl ⟨by decide +kernel, by decide +kernel⟩ : e_Sn 74 45 (o_push (.inl 2147483650) 46)) t_74_46
noncomputable def n_74_42 : e_Y := u_getf 12 2 (u_old (o_getf (e_f1 12 2) 45) n_74_45) n_74_45
theorem t_74_42 : e_Sn 74 42 (e_un n_74_42) := u_getfT (s_getf (C := er_12) (T := et_12) (N := 5) (ref := "PlateroomprinterModel") (index := 19) (ci := 12) (k := 2) hq_74 ho_74 ⟨rfl, by decide, ei_12, (List.mem_of_getElem? (i := 1960) (by decide +kernel)), .inl rfl⟩ (by decide +kernel) rfl : e_Sn 74 42 (o_getf (e_f1 12 2) 45)) t_74_45
noncomputable def n_74_41 : e_Y := u_ld f_okA f_l0 n_74_42
theorem t_74_41 : e_Sn 74 41 (e_un n_74_41) := u_ldAT f_l0_eq (s_aload (i := .aload_n 0) (len := 1) hq_74 (by decide +kernel) rfl (.inr ⟨0, rfl, rfl, rfl⟩) : e_Sn 74 41 (o_load e_okR 0 42)) t_74_42
noncomputable def n_74_36 : e_Y := u_if y_ne0 (u_old2 (o_ifeq 41 39) 41 n_74_41 (u_at 39)) n_74_41 (u_at 39)
theorem t_74_36 : e_Sn 74 36 (e_un n_74_36) := u_ifeqT rfl (s_ifeq (off := (5)) hq_74 (by decide +kernel) rfl rfl : e_Sn 74 36 (o_ifeq 41 39)) t_74_41 u_atT
noncomputable def n_74_33 : e_Y := u_callV 12 69 3 22 3 n_69_0 n_74_36
theorem t_74_33 : e_Sn 74 33 (e_un n_74_33) := u_callVT rfl (s_callV (ci := 12) (C := er_12) (T := et_12) (N := 5) (index := 128) hq_74 ho_74 hy_69 hp_69 hc_69 hi_69 hd_69 (List.mem_of_getElem? (i := 1996) (by decide +kernel)) hs_69 (List.mem_of_getElem? (i := 74) (by decide +kernel)) rfl (by decide +kernel) rfl : e_Sn 74 33 (o_callV (e_s1 12 69 3) 3 36)) t_69_0 t_74_36
noncomputable def n_74_32 : e_Y := u_push (.inl 2147483650) n_74_33
theorem t_74_32 : e_Sn 74 32 (e_un n_74_32) := u_pushT (s_iconst (n := (2)) hq_74 (by decide +kernel) rfl ⟨by decide +kernel, by decide +kernel⟩ : e_Sn 74 32 (o_push (.inl 2147483650) 33)) t_74_33
noncomputable def n_74_31 : e_Y := u_push (.inl 2147483648) n_74_32
theorem t_74_31 : e_Sn 74 31 (e_un n_74_31) := u_pushT (s_iconst (n := (0)) hq_74 (by decide +kernel) rfl ⟨by decide +kernel, by decide +kernel⟩ : e_Sn 74 31 (o_push (.inl 2147483648) 32)) t_74_32
noncomputable def n_74_24 : e_Y := u_jmp y_ne (u_old2 (o_ceq 27 31) 27 (u_at 27) n_74_31) (u_at 27) n_74_31
theorem t_74_24 : e_Sn 74 24 (e_un n_74_24) := u_ceqT rfl (s_cne (off := (7)) hq_74 (by decide +kernel) rfl rfl : e_Sn 74 24 (o_ceq 27 31)) u_atT t_74_31
noncomputable def n_74_21 : e_Y := u_push (.inl 2147484048) n_74_24
theorem t_74_21 : e_Sn 74 21 (e_un n_74_21) := u_pushT (s_sipush (n := (400)) hq_74 (by decide +kernel) rfl ⟨by decide +kernel, by decide +kernel⟩ : e_Sn 74 21 (o_push (.inl 2147484048) 24)) t_74_24
noncomputable def n_74_18 : e_Y := u_callV 19 117 1 20 1 n_117_0 n_74_21
theorem t_74_18 : e_Sn 74 18 (e_un n_74_18) := u_callVT rfl (s_callV (ci := 19) (C := er_19) (T := et_19) (N := 3) (index := 74) hq_74 ho_74 hy_117 hp_117 hc_117 hi_117 hd_117 (List.mem_of_getElem? (i := 2000) (by decide +kernel)) hs_117 (List.mem_of_getElem? (i := 2002) (by decide +kernel)) rfl (by decide +kernel) rfl : e_Sn 74 18 (o_callV (e_s1 19 117 1) 1 21)) t_117_0 t_74_21
noncomputable def n_74_15 : e_Y := u_getf 12 2 (u_old (o_getf (e_f1 12 2) 18) n_74_18) n_74_18
theorem t_74_15 : e_Sn 74 15 (e_un n_74_15) := u_getfT (s_getf (C := er_12) (T := et_12) (N := 5) (ref := "PlateroomprinterModel") (index := 19) (ci := 12) (k := 2) hq_74 ho_74 ⟨rfl, by decide, ei_12, (List.mem_of_getElem? (i := 1960) (by decide +kernel)), .inl rfl⟩ (by decide +kernel) rfl : e_Sn 74 15 (o_getf (e_f1 12 2) 18)) t_74_18
noncomputable def n_74_14 : e_Y := u_ld f_okA f_l0 n_74_15
theorem t_74_14 : e_Sn 74 14 (e_un n_74_14) := u_ldAT f_l0_eq (s_aload (i := .aload_n 0) (len := 1) hq_74 (by decide +kernel) rfl (.inr ⟨0, rfl, rfl, rfl⟩) : e_Sn 74 14 (o_load e_okR 0 15)) t_74_15
noncomputable def n_74_13 : e_Y := u_ld f_okA f_l0 n_74_14
theorem t_74_13 : e_Sn 74 13 (e_un n_74_13) := u_ldAT f_l0_eq (s_aload (i := .aload_n 0) (len := 1) hq_74 (by decide +kernel) rfl (.inr ⟨0, rfl, rfl, rfl⟩) : e_Sn 74 13 (o_load e_okR 0 14)) t_74_14
noncomputable def n_74_10 : e_Y := u_if y_ne0 (u_old2 (o_ifeq 13 39) 13 n_74_13 (u_at 39)) n_74_13 (u_at 39)
theorem t_74_10 : e_Sn 74 10 (e_un n_74_10) := u_ifeqT rfl (s_ifne (off := (29)) hq_74 (by decide +kernel) rfl rfl : e_Sn 74 10 (o_ifeq 13 39)) t_74_13 u_atT
noncomputable def n_74_7 : e_Y := u_callV 12 71 3 22 3 n_71_0 n_74_10
theorem t_74_7 : e_Sn 74 7 (e_un n_74_7) := u_callVT rfl (s_callV (ci := 12) (C := er_12) (T := et_12) (N := 5) (index := 148) hq_74 ho_74 hy_71 hp_71 hc_71 hi_71 hd_71 (List.mem_of_getElem? (i := 1992) (by decide +kernel)) hs_71 (List.mem_of_getElem? (i := 73) (by decide +kernel)) rfl (by decide +kernel) rfl : e_Sn 74 7 (o_callV (e_s1 12 71 3) 3 10)) t_71_0 t_74_10
noncomputable def n_74_6 : e_Y := u_push (.inl 2147483649) n_74_7
theorem t_74_6 : e_Sn 74 6 (e_un n_74_6) := u_pushT (s_iconst (n := (1)) hq_74 (by decide +kernel) rfl ⟨by decide +kernel, by decide +kernel⟩ : e_Sn 74 6 (o_push (.inl 2147483649) 7)) t_74_7
noncomputable def n_74_3 : e_Y := u_callS 67 2 21 2 n_67_0 n_74_6
theorem t_74_3 : e_Sn 74 3 (e_un n_74_3) := u_callST rfl (s_callS (index := 144) hq_74 ho_74 hy_67 hp_67 hc_67 hi_67 hd_67 (List.mem_of_getElem? (i := 1982) (by decide +kernel)) hs_67 (by decide +kernel) rfl : e_Sn 74 3 (o_callS 67 2 2 6)) t_67_0 t_74_6
noncomputable def n_74_2 : e_Y := u_ld f_okI f_l2 n_74_3
theorem t_74_2 : e_Sn 74 2 (e_un n_74_2) := u_ldIT f_l2_eq (s_iload (i := .iload_n 2) (len := 1) hq_74 (by decide +kernel) rfl (.inr ⟨2, rfl, rfl, rfl⟩) : e_Sn 74 2 (o_load e_okI 2 3)) t_74_3
noncomputable def n_74_1 : e_Y := u_ld f_okI f_l1 n_74_2
theorem t_74_1 : e_Sn 74 1 (e_un n_74_1) := u_ldIT f_l1_eq (s_iload (i := .iload_n 1) (len := 1) hq_74 (by decide +kernel) rfl (.inr ⟨1, rfl, rfl, rfl⟩) : e_Sn 74 1 (o_load e_okI 1 2)) t_74_2
noncomputable def n_74_0 : e_Y := u_ld f_okA f_l0 n_74_1
theorem t_74_0 : e_Sn 74 0 (e_un n_74_0) := u_ldAT f_l0_eq (s_aload (i := .aload_n 0) (len := 1) hq_74 (by decide +kernel) rfl (.inr ⟨0, rfl, rfl, rfl⟩) : e_Sn 74 0 (o_load e_okR 0 1)) t_74_1
noncomputable def e_tb_74 : e_X := (e_br 48 (e_lf 0 (e_un n_74_0)) (e_lf 48 (e_un n_74_48)))
theorem e_tk_74 : e_Tb 74 e_tb_74 := (e_brT (e_lfT t_74_0) (e_lfT t_74_48))
theorem hq_120 : (e_ml[120]?).map (·.2.1) = some code := rfl
theorem ho_120 : (e_ml[120]?).map (·.1.cls) = some "PlateroomprinterLaw" := rfl
theorem hr_120 : (e_ml[120]?).map (·.2.2.2) = some (some .boolean) := rfl
noncomputable def n_120_1471 : e_Y := u_tab (o_ret e_okZ)
theorem t_120_1471 : e_Sn 120 1471 (e_un n_120_1471) := u_tabT (s_zret hq_120 hr_120 (by decide +kernel) : e_Sn 120 1471 (o_ret e_okZ))
noncomputable def n_120_1470 : e_Y := u_push (.inl 2147483649) n_120_1471
theorem t_120_1470 : e_Sn 120 1470 (e_un n_120_1470) := u_pushT (s_iconst (n := (1)) hq_120 (by decide +kernel) rfl ⟨by decide +kernel, by decide +kernel⟩ : e_Sn 120 1470 (o_push (.inl 2147483649) 1471)) t_120_1471
noncomputable def n_120_1467 : e_Y := (u_at 23)
theorem t_120_1467 : e_Sn 120 1467 (e_un n_120_1467) := u_gotoT (s_goto (off := (-1444)) hq_120 (by decide +kernel) rfl : e_Sn 120 1467 (o_goto 23)) u_atT
noncomputable def n_120_1464 : e_Y := u_inc f_l4 f_s4 7 n_120_1467
theorem t_120_1464 : e_Sn 120 1464 (e_un n_120_1464) := u_incT f_l4_eq (fun _ _ _ => f_s4_eq) (s_iinc (zz := (7)) hq_120 (by decide +kernel) rfl (by decide +kernel) ⟨by decide, by decide⟩ : e_Sn 120 1464 (o_iinc 4 7 1467)) t_120_1467
noncomputable def n_120_405 : e_Y := n_120_1464
theorem t_120_405 : e_Sn 120 405 (e_un n_120_405) := u_gotoT (s_goto (off := (1059)) hq_120 (by decide +kernel) rfl : e_Sn 120 405 (o_goto 1464)) t_120_1464
noncomputable def n_120_404 : e_Y := u_pop n_120_405
theorem t_120_404 : e_Sn 120 404 (e_un n_120_404) := u_popT (s_pop hq_120 (by decide +kernel) rfl : e_Sn 120 404 (o_pop 405)) t_120_405
noncomputable def n_120_401 : e_Y := u_callV 12 70 4 23 1 n_70_0 n_120_404
theorem t_120_401 : e_Sn 120 401 (e_un n_120_401) := u_callVT rfl (s_callVW (ci := 12) (C := er_12) (T := et_12) (N := 5) (index := 135) hq_120 ho_120 hy_70 hp_70 hc_70 hi_70 hd_70 (List.mem_of_getElem? (i := 2037) (by decide +kernel)) hs_70 (List.mem_of_getElem? (i := 2039) (by decide +kernel)) rfl (by decide +kernel) rfl : e_Sn 120 401 (o_callV (e_s1 12 70 4) 1 404)) t_70_0 t_120_404
noncomputable def n_120_400 : e_Y := u_ld f_okA f_l2 n_120_401
theorem t_120_400 : e_Sn 120 400 (e_un n_120_400) := u_ldAT f_l2_eq (s_aload (i := .aload_n 2) (len := 1) hq_120 (by decide +kernel) rfl (.inr ⟨2, rfl, rfl, rfl⟩) : e_Sn 120 400 (o_load e_okR 2 401)) t_120_401
noncomputable def n_120_399 : e_Y := u_pop n_120_400
theorem t_120_399 : e_Sn 120 399 (e_un n_120_399) := u_popT (s_pop hq_120 (by decide +kernel) rfl : e_Sn 120 399 (o_pop 400)) t_120_400
noncomputable def n_120_396 : e_Y := u_callV 0 3 3 22 1 n_3_0 n_120_399
theorem t_120_396 : e_Sn 120 396 (e_un n_120_396) := u_callVT rfl (s_callV (ci := 0) (C := er_0) (T := et_0) (N := 17) (index := 132) hq_120 ho_120 hy_3 hp_3 hc_3 hi_3 hd_3 (List.mem_of_getElem? (i := 736) (by decide +kernel)) hs_3 (List.mem_of_getElem? (i := 738) (by decide +kernel)) rfl (by decide +kernel) rfl : e_Sn 120 396 (o_callV (e_s1 0 3 3) 1 399)) t_3_0 t_120_399
noncomputable def n_120_395 : e_Y := u_ld f_okA f_l1 n_120_396
theorem t_120_395 : e_Sn 120 395 (e_un n_120_395) := u_ldAT f_l1_eq (s_aload (i := .aload_n 1) (len := 1) hq_120 (by decide +kernel) rfl (.inr ⟨1, rfl, rfl, rfl⟩) : e_Sn 120 395 (o_load e_okR 1 396)) t_120_396
noncomputable def n_120_363 : e_Y := n_120_1464
theorem t_120_363 : e_Sn 120 363 (e_un n_120_363) := u_gotoT (s_goto (off := (1101)) hq_120 (by decide +kernel) rfl : e_Sn 120 363 (o_goto 1464)) t_120_1464
noncomputable def n_120_358 : e_Y := u_if y_ne0 (u_old2 (o_ifeq 363 361) 363 n_120_363 (u_at 361)) n_120_363 (u_at 361)
theorem t_120_358 : e_Sn 120 358 (e_un n_120_358) := u_ifeqT rfl (s_ifeq (off := (5)) hq_120 (by decide +kernel) rfl rfl : e_Sn 120 358 (o_ifeq 363 361)) t_120_363 u_atT
noncomputable def n_120_357 : e_Y := u_old (o_lcmp 358) n_120_358
theorem t_120_357 : e_Sn 120 357 (e_un n_120_357) := u_oldT (s_lcmp hq_120 (by decide +kernel) rfl : e_Sn 120 357 (o_lcmp 358)) t_120_358 e_cg_lcmp
noncomputable def n_120_356 : e_Y := u_old (o_i2l 357) n_120_357
theorem t_120_356 : e_Sn 120 356 (e_un n_120_356) := u_oldT (s_i2l hq_120 (by decide +kernel) rfl : e_Sn 120 356 (o_i2l 357)) t_120_357 e_congr_i2l
noncomputable def n_120_354 : e_Y := u_ld f_okI f_l6 n_120_356
theorem t_120_354 : e_Sn 120 354 (e_un n_120_354) := u_ldIT f_l6_eq (s_iload (i := .iload 6) (len := 2) hq_120 (by decide +kernel) rfl (.inl ⟨rfl, rfl⟩) : e_Sn 120 354 (o_load e_okI 6 356)) t_120_356
noncomputable def n_120_353 : e_Y := u_ald 2 (u_old (o_aldO 2 354) n_120_354) n_120_354
theorem t_120_353 : e_Sn 120 353 (e_un n_120_353) := u_aldOT (s_lald hq_120 (by decide +kernel) rfl : e_Sn 120 353 (o_aldO 2 354)) t_120_354
noncomputable def n_120_352 : e_Y := u_push (.inl 2147483648) n_120_353
theorem t_120_352 : e_Sn 120 352 (e_un n_120_352) := u_pushT (s_iconst (n := (0)) hq_120 (by decide +kernel) rfl ⟨by decide +kernel, by decide +kernel⟩ : e_Sn 120 352 (o_push (.inl 2147483648) 353)) t_120_353
noncomputable def n_120_351 : e_Y := u_ld f_okA f_l3 n_120_352
theorem t_120_351 : e_Sn 120 351 (e_un n_120_351) := u_ldAT f_l3_eq (s_aload (i := .aload_n 3) (len := 1) hq_120 (by decide +kernel) rfl (.inr ⟨3, rfl, rfl, rfl⟩) : e_Sn 120 351 (o_load e_okR 3 352)) t_120_352
noncomputable def n_120_348 : e_Y := u_if y_ne0 (u_old2 (o_ifeq 351 363) 351 n_120_351 n_120_363) n_120_351 n_120_363
theorem t_120_348 : e_Sn 120 348 (e_un n_120_348) := u_ifeqT rfl (s_ifne (off := (15)) hq_120 (by decide +kernel) rfl rfl : e_Sn 120 348 (o_ifeq 351 363)) t_120_351 t_120_363
noncomputable def n_120_346 : e_Y := u_ld f_okI f_l5 n_120_348
theorem t_120_346 : e_Sn 120 346 (e_un n_120_346) := u_ldIT f_l5_eq (s_iload (i := .iload 5) (len := 2) hq_120 (by decide +kernel) rfl (.inl ⟨rfl, rfl⟩) : e_Sn 120 346 (o_load e_okI 5 348)) t_120_348
noncomputable def n_120_341 : e_Y := u_jmp y_ne (u_old2 (o_ceq 346 344) 346 n_120_346 (u_at 344)) n_120_346 (u_at 344)
theorem t_120_341 : e_Sn 120 341 (e_un n_120_341) := u_ceqT rfl (s_ceq (off := (5)) hq_120 (by decide +kernel) rfl rfl : e_Sn 120 341 (o_ceq 346 344)) t_120_346 u_atT
noncomputable def n_120_339 : e_Y := u_ld f_okI f_l5 n_120_341
theorem t_120_339 : e_Sn 120 339 (e_un n_120_339) := u_ldIT f_l5_eq (s_iload (i := .iload 5) (len := 2) hq_120 (by decide +kernel) rfl (.inl ⟨rfl, rfl⟩) : e_Sn 120 339 (o_load e_okI 5 341)) t_120_341
noncomputable def n_120_336 : e_Y := u_callV 12 73 1 20 1 n_73_0 n_120_339
theorem t_120_336 : e_Sn 120 336 (e_un n_120_336) := u_callVT rfl (s_callV (ci := 12) (C := er_12) (T := et_12) (N := 5) (index := 121) hq_120 ho_120 hy_73 hp_73 hc_73 hi_73 hd_73 (List.mem_of_getElem? (i := 1974) (by decide +kernel)) hs_73 (List.mem_of_getElem? (i := 1976) (by decide +kernel)) rfl (by decide +kernel) rfl : e_Sn 120 336 (o_callV (e_s1 12 73 1) 1 339)) t_73_0 t_120_339
noncomputable def n_120_335 : e_Y := u_ld f_okA f_l2 n_120_336
theorem t_120_335 : e_Sn 120 335 (e_un n_120_335) := u_ldAT f_l2_eq (s_aload (i := .aload_n 2) (len := 1) hq_120 (by decide +kernel) rfl (.inr ⟨2, rfl, rfl, rfl⟩) : e_Sn 120 335 (o_load e_okR 2 336)) t_120_336
noncomputable def n_120_333 : e_Y := u_st f_okI f_s6 n_120_335
theorem t_120_333 : e_Sn 120 333 (e_un n_120_333) := u_stIT (fun _ _ _ => f_s6_eq) (s_istore (i := .istore 6) (len := 2) hq_120 (by decide +kernel) rfl (.inl ⟨rfl, rfl⟩) : e_Sn 120 333 (o_store e_okI 6 335)) t_120_335
noncomputable def n_120_330 : e_Y := u_callV 12 72 8 27 7 n_72_0 n_120_333
theorem t_120_330 : e_Sn 120 330 (e_un n_120_330) := u_callVT rfl (s_callV (ci := 12) (C := er_12) (T := et_12) (N := 5) (index := 120) hq_120 ho_120 hy_72 hp_72 hc_72 hi_72 hd_72 (List.mem_of_getElem? (i := 2005) (by decide +kernel)) hs_72 (List.mem_of_getElem? (i := 2007) (by decide +kernel)) rfl (by decide +kernel) rfl : e_Sn 120 330 (o_callV (e_s1 12 72 8) 7 333)) t_72_0 t_120_333
noncomputable def n_120_329 : e_Y := u_ald 0 (u_old (o_ald e_fcs 330) n_120_330) n_120_330
theorem t_120_329 : e_Sn 120 329 (e_un n_120_329) := u_aldT (s_iald hq_120 (by decide +kernel) rfl : e_Sn 120 329 (o_ald e_fcs 330)) t_120_330
noncomputable def n_120_328 : e_Y := u_bin a_iadd (u_old (o_iadd 329) n_120_329) n_120_329
theorem t_120_328 : e_Sn 120 328 (e_un n_120_328) := u_iaddT (s_iadd hq_120 (by decide +kernel) rfl : e_Sn 120 328 (o_iadd 329)) t_120_329
noncomputable def n_120_326 : e_Y := u_push (.inl 2147483654) n_120_328
theorem t_120_326 : e_Sn 120 326 (e_un n_120_326) := u_pushT (s_bipush (n := (6)) hq_120 (by decide +kernel) rfl ⟨by decide +kernel, by decide +kernel⟩ : e_Sn 120 326 (o_push (.inl 2147483654) 328)) t_120_328
noncomputable def n_120_324 : e_Y := u_ld f_okI f_l4 n_120_326
theorem t_120_324 : e_Sn 120 324 (e_un n_120_324) := u_ldIT f_l4_eq (s_iload (i := .iload 4) (len := 2) hq_120 (by decide +kernel) rfl (.inl ⟨rfl, rfl⟩) : e_Sn 120 324 (o_load e_okI 4 326)) t_120_326
noncomputable def n_120_323 : e_Y := u_ld f_okA f_l0 n_120_324
theorem t_120_323 : e_Sn 120 323 (e_un n_120_323) := u_ldAT f_l0_eq (s_aload (i := .aload_n 0) (len := 1) hq_120 (by decide +kernel) rfl (.inr ⟨0, rfl, rfl, rfl⟩) : e_Sn 120 323 (o_load e_okR 0 324)) t_120_324
noncomputable def n_120_322 : e_Y := u_ald 0 (u_old (o_ald e_fcs 323) n_120_323) n_120_323
theorem t_120_322 : e_Sn 120 322 (e_un n_120_322) := u_aldT (s_iald hq_120 (by decide +kernel) rfl : e_Sn 120 322 (o_ald e_fcs 323)) t_120_323
noncomputable def n_120_321 : e_Y := u_bin a_iadd (u_old (o_iadd 322) n_120_322) n_120_322
theorem t_120_321 : e_Sn 120 321 (e_un n_120_321) := u_iaddT (s_iadd hq_120 (by decide +kernel) rfl : e_Sn 120 321 (o_iadd 322)) t_120_322
noncomputable def n_120_320 : e_Y := u_push (.inl 2147483653) n_120_321
theorem t_120_320 : e_Sn 120 320 (e_un n_120_320) := u_pushT (s_iconst (n := (5)) hq_120 (by decide +kernel) rfl ⟨by decide +kernel, by decide +kernel⟩ : e_Sn 120 320 (o_push (.inl 2147483653) 321)) t_120_321
noncomputable def n_120_318 : e_Y := u_ld f_okI f_l4 n_120_320
theorem t_120_318 : e_Sn 120 318 (e_un n_120_318) := u_ldIT f_l4_eq (s_iload (i := .iload 4) (len := 2) hq_120 (by decide +kernel) rfl (.inl ⟨rfl, rfl⟩) : e_Sn 120 318 (o_load e_okI 4 320)) t_120_320
noncomputable def n_120_317 : e_Y := u_ld f_okA f_l0 n_120_318
theorem t_120_317 : e_Sn 120 317 (e_un n_120_317) := u_ldAT f_l0_eq (s_aload (i := .aload_n 0) (len := 1) hq_120 (by decide +kernel) rfl (.inr ⟨0, rfl, rfl, rfl⟩) : e_Sn 120 317 (o_load e_okR 0 318)) t_120_318
noncomputable def n_120_316 : e_Y := u_ald 0 (u_old (o_ald e_fcs 317) n_120_317) n_120_317
theorem t_120_316 : e_Sn 120 316 (e_un n_120_316) := u_aldT (s_iald hq_120 (by decide +kernel) rfl : e_Sn 120 316 (o_ald e_fcs 317)) t_120_317
noncomputable def n_120_315 : e_Y := u_bin a_iadd (u_old (o_iadd 316) n_120_316) n_120_316
theorem t_120_315 : e_Sn 120 315 (e_un n_120_315) := u_iaddT (s_iadd hq_120 (by decide +kernel) rfl : e_Sn 120 315 (o_iadd 316)) t_120_316
noncomputable def n_120_314 : e_Y := u_push (.inl 2147483652) n_120_315
theorem t_120_314 : e_Sn 120 314 (e_un n_120_314) := u_pushT (s_iconst (n := (4)) hq_120 (by decide +kernel) rfl ⟨by decide +kernel, by decide +kernel⟩ : e_Sn 120 314 (o_push (.inl 2147483652) 315)) t_120_315
noncomputable def n_120_312 : e_Y := u_ld f_okI f_l4 n_120_314
theorem t_120_312 : e_Sn 120 312 (e_un n_120_312) := u_ldIT f_l4_eq (s_iload (i := .iload 4) (len := 2) hq_120 (by decide +kernel) rfl (.inl ⟨rfl, rfl⟩) : e_Sn 120 312 (o_load e_okI 4 314)) t_120_314
noncomputable def n_120_311 : e_Y := u_ld f_okA f_l0 n_120_312
theorem t_120_311 : e_Sn 120 311 (e_un n_120_311) := u_ldAT f_l0_eq (s_aload (i := .aload_n 0) (len := 1) hq_120 (by decide +kernel) rfl (.inr ⟨0, rfl, rfl, rfl⟩) : e_Sn 120 311 (o_load e_okR 0 312)) t_120_312
noncomputable def n_120_310 : e_Y := u_ald 0 (u_old (o_ald e_fcs 311) n_120_311) n_120_311
theorem t_120_310 : e_Sn 120 310 (e_un n_120_310) := u_aldT (s_iald hq_120 (by decide +kernel) rfl : e_Sn 120 310 (o_ald e_fcs 311)) t_120_311
noncomputable def n_120_309 : e_Y := u_bin a_iadd (u_old (o_iadd 310) n_120_310) n_120_310
theorem t_120_309 : e_Sn 120 309 (e_un n_120_309) := u_iaddT (s_iadd hq_120 (by decide +kernel) rfl : e_Sn 120 309 (o_iadd 310)) t_120_310
noncomputable def n_120_308 : e_Y := u_push (.inl 2147483651) n_120_309
theorem t_120_308 : e_Sn 120 308 (e_un n_120_308) := u_pushT (s_iconst (n := (3)) hq_120 (by decide +kernel) rfl ⟨by decide +kernel, by decide +kernel⟩ : e_Sn 120 308 (o_push (.inl 2147483651) 309)) t_120_309
noncomputable def n_120_306 : e_Y := u_ld f_okI f_l4 n_120_308
theorem t_120_306 : e_Sn 120 306 (e_un n_120_306) := u_ldIT f_l4_eq (s_iload (i := .iload 4) (len := 2) hq_120 (by decide +kernel) rfl (.inl ⟨rfl, rfl⟩) : e_Sn 120 306 (o_load e_okI 4 308)) t_120_308
noncomputable def n_120_305 : e_Y := u_ld f_okA f_l0 n_120_306
theorem t_120_305 : e_Sn 120 305 (e_un n_120_305) := u_ldAT f_l0_eq (s_aload (i := .aload_n 0) (len := 1) hq_120 (by decide +kernel) rfl (.inr ⟨0, rfl, rfl, rfl⟩) : e_Sn 120 305 (o_load e_okR 0 306)) t_120_306
noncomputable def n_120_304 : e_Y := u_ald 0 (u_old (o_ald e_fcs 305) n_120_305) n_120_305
theorem t_120_304 : e_Sn 120 304 (e_un n_120_304) := u_aldT (s_iald hq_120 (by decide +kernel) rfl : e_Sn 120 304 (o_ald e_fcs 305)) t_120_305
noncomputable def n_120_303 : e_Y := u_bin a_iadd (u_old (o_iadd 304) n_120_304) n_120_304
theorem t_120_303 : e_Sn 120 303 (e_un n_120_303) := u_iaddT (s_iadd hq_120 (by decide +kernel) rfl : e_Sn 120 303 (o_iadd 304)) t_120_304
noncomputable def n_120_302 : e_Y := u_push (.inl 2147483650) n_120_303
theorem t_120_302 : e_Sn 120 302 (e_un n_120_302) := u_pushT (s_iconst (n := (2)) hq_120 (by decide +kernel) rfl ⟨by decide +kernel, by decide +kernel⟩ : e_Sn 120 302 (o_push (.inl 2147483650) 303)) t_120_303
noncomputable def n_120_300 : e_Y := u_ld f_okI f_l4 n_120_302
theorem t_120_300 : e_Sn 120 300 (e_un n_120_300) := u_ldIT f_l4_eq (s_iload (i := .iload 4) (len := 2) hq_120 (by decide +kernel) rfl (.inl ⟨rfl, rfl⟩) : e_Sn 120 300 (o_load e_okI 4 302)) t_120_302
noncomputable def n_120_299 : e_Y := u_ld f_okA f_l0 n_120_300
theorem t_120_299 : e_Sn 120 299 (e_un n_120_299) := u_ldAT f_l0_eq (s_aload (i := .aload_n 0) (len := 1) hq_120 (by decide +kernel) rfl (.inr ⟨0, rfl, rfl, rfl⟩) : e_Sn 120 299 (o_load e_okR 0 300)) t_120_300
noncomputable def n_120_298 : e_Y := u_ald 0 (u_old (o_ald e_fcs 299) n_120_299) n_120_299
theorem t_120_298 : e_Sn 120 298 (e_un n_120_298) := u_aldT (s_iald hq_120 (by decide +kernel) rfl : e_Sn 120 298 (o_ald e_fcs 299)) t_120_299
noncomputable def n_120_297 : e_Y := u_bin a_iadd (u_old (o_iadd 298) n_120_298) n_120_298
theorem t_120_297 : e_Sn 120 297 (e_un n_120_297) := u_iaddT (s_iadd hq_120 (by decide +kernel) rfl : e_Sn 120 297 (o_iadd 298)) t_120_298
noncomputable def n_120_296 : e_Y := u_push (.inl 2147483649) n_120_297
theorem t_120_296 : e_Sn 120 296 (e_un n_120_296) := u_pushT (s_iconst (n := (1)) hq_120 (by decide +kernel) rfl ⟨by decide +kernel, by decide +kernel⟩ : e_Sn 120 296 (o_push (.inl 2147483649) 297)) t_120_297
noncomputable def n_120_294 : e_Y := u_ld f_okI f_l4 n_120_296
theorem t_120_294 : e_Sn 120 294 (e_un n_120_294) := u_ldIT f_l4_eq (s_iload (i := .iload 4) (len := 2) hq_120 (by decide +kernel) rfl (.inl ⟨rfl, rfl⟩) : e_Sn 120 294 (o_load e_okI 4 296)) t_120_296
noncomputable def n_120_293 : e_Y := u_ld f_okA f_l0 n_120_294
theorem t_120_293 : e_Sn 120 293 (e_un n_120_293) := u_ldAT f_l0_eq (s_aload (i := .aload_n 0) (len := 1) hq_120 (by decide +kernel) rfl (.inr ⟨0, rfl, rfl, rfl⟩) : e_Sn 120 293 (o_load e_okR 0 294)) t_120_294
noncomputable def n_120_292 : e_Y := u_ld f_okA f_l2 n_120_293
theorem t_120_292 : e_Sn 120 292 (e_un n_120_292) := u_ldAT f_l2_eq (s_aload (i := .aload_n 2) (len := 1) hq_120 (by decide +kernel) rfl (.inr ⟨2, rfl, rfl, rfl⟩) : e_Sn 120 292 (o_load e_okR 2 293)) t_120_293
noncomputable def n_120_290 : e_Y := u_st f_okI f_s5 n_120_292
theorem t_120_290 : e_Sn 120 290 (e_un n_120_290) := u_stIT (fun _ _ _ => f_s5_eq) (s_istore (i := .istore 5) (len := 2) hq_120 (by decide +kernel) rfl (.inl ⟨rfl, rfl⟩) : e_Sn 120 290 (o_store e_okI 5 292)) t_120_292
noncomputable def n_120_287 : e_Y := u_callS 59 9 28 8 n_59_0 n_120_290
theorem t_120_287 : e_Sn 120 287 (e_un n_120_287) := u_callST rfl (s_callSW (index := 117) hq_120 ho_120 hy_59 hp_59 hc_59 hi_59 hd_59 (List.mem_of_getElem? (i := 1594) (by decide +kernel)) hs_59 (by decide +kernel) rfl : e_Sn 120 287 (o_callS 59 9 8 290)) t_59_0 t_120_290
noncomputable def n_120_286 : e_Y := u_ld f_okA f_l3 n_120_287
theorem t_120_286 : e_Sn 120 286 (e_un n_120_286) := u_ldAT f_l3_eq (s_aload (i := .aload_n 3) (len := 1) hq_120 (by decide +kernel) rfl (.inr ⟨3, rfl, rfl, rfl⟩) : e_Sn 120 286 (o_load e_okR 3 287)) t_120_287
noncomputable def n_120_285 : e_Y := u_ald 0 (u_old (o_ald e_fcs 286) n_120_286) n_120_286
theorem t_120_285 : e_Sn 120 285 (e_un n_120_285) := u_aldT (s_iald hq_120 (by decide +kernel) rfl : e_Sn 120 285 (o_ald e_fcs 286)) t_120_286
noncomputable def n_120_284 : e_Y := u_bin a_iadd (u_old (o_iadd 285) n_120_285) n_120_285
theorem t_120_284 : e_Sn 120 284 (e_un n_120_284) := u_iaddT (s_iadd hq_120 (by decide +kernel) rfl : e_Sn 120 284 (o_iadd 285)) t_120_285
noncomputable def n_120_282 : e_Y := u_push (.inl 2147483654) n_120_284
theorem t_120_282 : e_Sn 120 282 (e_un n_120_282) := u_pushT (s_bipush (n := (6)) hq_120 (by decide +kernel) rfl ⟨by decide +kernel, by decide +kernel⟩ : e_Sn 120 282 (o_push (.inl 2147483654) 284)) t_120_284
noncomputable def n_120_280 : e_Y := u_ld f_okI f_l4 n_120_282
theorem t_120_280 : e_Sn 120 280 (e_un n_120_280) := u_ldIT f_l4_eq (s_iload (i := .iload 4) (len := 2) hq_120 (by decide +kernel) rfl (.inl ⟨rfl, rfl⟩) : e_Sn 120 280 (o_load e_okI 4 282)) t_120_282
noncomputable def n_120_279 : e_Y := u_ld f_okA f_l0 n_120_280
theorem t_120_279 : e_Sn 120 279 (e_un n_120_279) := u_ldAT f_l0_eq (s_aload (i := .aload_n 0) (len := 1) hq_120 (by decide +kernel) rfl (.inr ⟨0, rfl, rfl, rfl⟩) : e_Sn 120 279 (o_load e_okR 0 280)) t_120_280
noncomputable def n_120_278 : e_Y := u_ald 0 (u_old (o_ald e_fcs 279) n_120_279) n_120_279
theorem t_120_278 : e_Sn 120 278 (e_un n_120_278) := u_aldT (s_iald hq_120 (by decide +kernel) rfl : e_Sn 120 278 (o_ald e_fcs 279)) t_120_279
noncomputable def n_120_277 : e_Y := u_bin a_iadd (u_old (o_iadd 278) n_120_278) n_120_278
theorem t_120_277 : e_Sn 120 277 (e_un n_120_277) := u_iaddT (s_iadd hq_120 (by decide +kernel) rfl : e_Sn 120 277 (o_iadd 278)) t_120_278
noncomputable def n_120_276 : e_Y := u_push (.inl 2147483653) n_120_277
theorem t_120_276 : e_Sn 120 276 (e_un n_120_276) := u_pushT (s_iconst (n := (5)) hq_120 (by decide +kernel) rfl ⟨by decide +kernel, by decide +kernel⟩ : e_Sn 120 276 (o_push (.inl 2147483653) 277)) t_120_277
noncomputable def n_120_274 : e_Y := u_ld f_okI f_l4 n_120_276
theorem t_120_274 : e_Sn 120 274 (e_un n_120_274) := u_ldIT f_l4_eq (s_iload (i := .iload 4) (len := 2) hq_120 (by decide +kernel) rfl (.inl ⟨rfl, rfl⟩) : e_Sn 120 274 (o_load e_okI 4 276)) t_120_276
noncomputable def n_120_273 : e_Y := u_ld f_okA f_l0 n_120_274
theorem t_120_273 : e_Sn 120 273 (e_un n_120_273) := u_ldAT f_l0_eq (s_aload (i := .aload_n 0) (len := 1) hq_120 (by decide +kernel) rfl (.inr ⟨0, rfl, rfl, rfl⟩) : e_Sn 120 273 (o_load e_okR 0 274)) t_120_274
noncomputable def n_120_272 : e_Y := u_ald 0 (u_old (o_ald e_fcs 273) n_120_273) n_120_273
theorem t_120_272 : e_Sn 120 272 (e_un n_120_272) := u_aldT (s_iald hq_120 (by decide +kernel) rfl : e_Sn 120 272 (o_ald e_fcs 273)) t_120_273
noncomputable def n_120_271 : e_Y := u_bin a_iadd (u_old (o_iadd 272) n_120_272) n_120_272
theorem t_120_271 : e_Sn 120 271 (e_un n_120_271) := u_iaddT (s_iadd hq_120 (by decide +kernel) rfl : e_Sn 120 271 (o_iadd 272)) t_120_272
noncomputable def n_120_270 : e_Y := u_push (.inl 2147483652) n_120_271
theorem t_120_270 : e_Sn 120 270 (e_un n_120_270) := u_pushT (s_iconst (n := (4)) hq_120 (by decide +kernel) rfl ⟨by decide +kernel, by decide +kernel⟩ : e_Sn 120 270 (o_push (.inl 2147483652) 271)) t_120_271
noncomputable def n_120_268 : e_Y := u_ld f_okI f_l4 n_120_270
theorem t_120_268 : e_Sn 120 268 (e_un n_120_268) := u_ldIT f_l4_eq (s_iload (i := .iload 4) (len := 2) hq_120 (by decide +kernel) rfl (.inl ⟨rfl, rfl⟩) : e_Sn 120 268 (o_load e_okI 4 270)) t_120_270
noncomputable def n_120_267 : e_Y := u_ld f_okA f_l0 n_120_268
theorem t_120_267 : e_Sn 120 267 (e_un n_120_267) := u_ldAT f_l0_eq (s_aload (i := .aload_n 0) (len := 1) hq_120 (by decide +kernel) rfl (.inr ⟨0, rfl, rfl, rfl⟩) : e_Sn 120 267 (o_load e_okR 0 268)) t_120_268
noncomputable def n_120_266 : e_Y := u_ald 0 (u_old (o_ald e_fcs 267) n_120_267) n_120_267
theorem t_120_266 : e_Sn 120 266 (e_un n_120_266) := u_aldT (s_iald hq_120 (by decide +kernel) rfl : e_Sn 120 266 (o_ald e_fcs 267)) t_120_267
noncomputable def n_120_265 : e_Y := u_bin a_iadd (u_old (o_iadd 266) n_120_266) n_120_266
theorem t_120_265 : e_Sn 120 265 (e_un n_120_265) := u_iaddT (s_iadd hq_120 (by decide +kernel) rfl : e_Sn 120 265 (o_iadd 266)) t_120_266
noncomputable def n_120_264 : e_Y := u_push (.inl 2147483651) n_120_265
theorem t_120_264 : e_Sn 120 264 (e_un n_120_264) := u_pushT (s_iconst (n := (3)) hq_120 (by decide +kernel) rfl ⟨by decide +kernel, by decide +kernel⟩ : e_Sn 120 264 (o_push (.inl 2147483651) 265)) t_120_265
noncomputable def n_120_262 : e_Y := u_ld f_okI f_l4 n_120_264
theorem t_120_262 : e_Sn 120 262 (e_un n_120_262) := u_ldIT f_l4_eq (s_iload (i := .iload 4) (len := 2) hq_120 (by decide +kernel) rfl (.inl ⟨rfl, rfl⟩) : e_Sn 120 262 (o_load e_okI 4 264)) t_120_264
noncomputable def n_120_261 : e_Y := u_ld f_okA f_l0 n_120_262
theorem t_120_261 : e_Sn 120 261 (e_un n_120_261) := u_ldAT f_l0_eq (s_aload (i := .aload_n 0) (len := 1) hq_120 (by decide +kernel) rfl (.inr ⟨0, rfl, rfl, rfl⟩) : e_Sn 120 261 (o_load e_okR 0 262)) t_120_262
noncomputable def n_120_260 : e_Y := u_ald 0 (u_old (o_ald e_fcs 261) n_120_261) n_120_261
theorem t_120_260 : e_Sn 120 260 (e_un n_120_260) := u_aldT (s_iald hq_120 (by decide +kernel) rfl : e_Sn 120 260 (o_ald e_fcs 261)) t_120_261
noncomputable def n_120_259 : e_Y := u_bin a_iadd (u_old (o_iadd 260) n_120_260) n_120_260
theorem t_120_259 : e_Sn 120 259 (e_un n_120_259) := u_iaddT (s_iadd hq_120 (by decide +kernel) rfl : e_Sn 120 259 (o_iadd 260)) t_120_260
noncomputable def n_120_258 : e_Y := u_push (.inl 2147483650) n_120_259
theorem t_120_258 : e_Sn 120 258 (e_un n_120_258) := u_pushT (s_iconst (n := (2)) hq_120 (by decide +kernel) rfl ⟨by decide +kernel, by decide +kernel⟩ : e_Sn 120 258 (o_push (.inl 2147483650) 259)) t_120_259
noncomputable def n_120_256 : e_Y := u_ld f_okI f_l4 n_120_258
theorem t_120_256 : e_Sn 120 256 (e_un n_120_256) := u_ldIT f_l4_eq (s_iload (i := .iload 4) (len := 2) hq_120 (by decide +kernel) rfl (.inl ⟨rfl, rfl⟩) : e_Sn 120 256 (o_load e_okI 4 258)) t_120_258
noncomputable def n_120_255 : e_Y := u_ld f_okA f_l0 n_120_256
theorem t_120_255 : e_Sn 120 255 (e_un n_120_255) := u_ldAT f_l0_eq (s_aload (i := .aload_n 0) (len := 1) hq_120 (by decide +kernel) rfl (.inr ⟨0, rfl, rfl, rfl⟩) : e_Sn 120 255 (o_load e_okR 0 256)) t_120_256
noncomputable def n_120_254 : e_Y := u_ald 0 (u_old (o_ald e_fcs 255) n_120_255) n_120_255
theorem t_120_254 : e_Sn 120 254 (e_un n_120_254) := u_aldT (s_iald hq_120 (by decide +kernel) rfl : e_Sn 120 254 (o_ald e_fcs 255)) t_120_255
noncomputable def n_120_253 : e_Y := u_bin a_iadd (u_old (o_iadd 254) n_120_254) n_120_254
theorem t_120_253 : e_Sn 120 253 (e_un n_120_253) := u_iaddT (s_iadd hq_120 (by decide +kernel) rfl : e_Sn 120 253 (o_iadd 254)) t_120_254
noncomputable def n_120_252 : e_Y := u_push (.inl 2147483649) n_120_253
theorem t_120_252 : e_Sn 120 252 (e_un n_120_252) := u_pushT (s_iconst (n := (1)) hq_120 (by decide +kernel) rfl ⟨by decide +kernel, by decide +kernel⟩ : e_Sn 120 252 (o_push (.inl 2147483649) 253)) t_120_253
noncomputable def n_120_250 : e_Y := u_ld f_okI f_l4 n_120_252
theorem t_120_250 : e_Sn 120 250 (e_un n_120_250) := u_ldIT f_l4_eq (s_iload (i := .iload 4) (len := 2) hq_120 (by decide +kernel) rfl (.inl ⟨rfl, rfl⟩) : e_Sn 120 250 (o_load e_okI 4 252)) t_120_252
noncomputable def n_120_249 : e_Y := u_ld f_okA f_l0 n_120_250
theorem t_120_249 : e_Sn 120 249 (e_un n_120_249) := u_ldAT f_l0_eq (s_aload (i := .aload_n 0) (len := 1) hq_120 (by decide +kernel) rfl (.inr ⟨0, rfl, rfl, rfl⟩) : e_Sn 120 249 (o_load e_okR 0 250)) t_120_250
noncomputable def n_120_248 : e_Y := u_ld f_okA f_l1 n_120_249
theorem t_120_248 : e_Sn 120 248 (e_un n_120_248) := u_ldAT f_l1_eq (s_aload (i := .aload_n 1) (len := 1) hq_120 (by decide +kernel) rfl (.inr ⟨1, rfl, rfl, rfl⟩) : e_Sn 120 248 (o_load e_okR 1 249)) t_120_249
noncomputable def n_120_245 : e_Y := n_120_1464
theorem t_120_245 : e_Sn 120 245 (e_un n_120_245) := u_gotoT (s_goto (off := (1219)) hq_120 (by decide +kernel) rfl : e_Sn 120 245 (o_goto 1464)) t_120_1464
noncomputable def n_120_243 : e_Y := u_st f_okI f_s6 n_120_245
theorem t_120_243 : e_Sn 120 243 (e_un n_120_243) := u_stIT (fun _ _ _ => f_s6_eq) (s_istore (i := .istore 6) (len := 2) hq_120 (by decide +kernel) rfl (.inl ⟨rfl, rfl⟩) : e_Sn 120 243 (o_store e_okI 6 245)) t_120_245
noncomputable def n_120_240 : e_Y := u_callV 12 74 3 22 3 n_74_0 n_120_243
theorem t_120_240 : e_Sn 120 240 (e_un n_120_240) := u_callVT rfl (s_callV (ci := 12) (C := er_12) (T := et_12) (N := 5) (index := 116) hq_120 ho_120 hy_74 hp_74 hc_74 hi_74 hd_74 (List.mem_of_getElem? (i := 1978) (by decide +kernel)) hs_74 (List.mem_of_getElem? (i := 1980) (by decide +kernel)) rfl (by decide +kernel) rfl : e_Sn 120 240 (o_callV (e_s1 12 74 3) 3 243)) t_74_0 t_120_243
noncomputable def n_120_239 : e_Y := u_ald 0 (u_old (o_ald e_fcs 240) n_120_240) n_120_240
theorem t_120_239 : e_Sn 120 239 (e_un n_120_239) := u_aldT (s_iald hq_120 (by decide +kernel) rfl : e_Sn 120 239 (o_ald e_fcs 240)) t_120_240
noncomputable def n_120_238 : e_Y := u_bin a_iadd (u_old (o_iadd 239) n_120_239) n_120_239
theorem t_120_238 : e_Sn 120 238 (e_un n_120_238) := u_iaddT (s_iadd hq_120 (by decide +kernel) rfl : e_Sn 120 238 (o_iadd 239)) t_120_239
noncomputable def n_120_237 : e_Y := u_push (.inl 2147483650) n_120_238
theorem t_120_237 : e_Sn 120 237 (e_un n_120_237) := u_pushT (s_iconst (n := (2)) hq_120 (by decide +kernel) rfl ⟨by decide +kernel, by decide +kernel⟩ : e_Sn 120 237 (o_push (.inl 2147483650) 238)) t_120_238
noncomputable def n_120_235 : e_Y := u_ld f_okI f_l4 n_120_237
theorem t_120_235 : e_Sn 120 235 (e_un n_120_235) := u_ldIT f_l4_eq (s_iload (i := .iload 4) (len := 2) hq_120 (by decide +kernel) rfl (.inl ⟨rfl, rfl⟩) : e_Sn 120 235 (o_load e_okI 4 237)) t_120_237
noncomputable def n_120_234 : e_Y := u_ld f_okA f_l0 n_120_235
theorem t_120_234 : e_Sn 120 234 (e_un n_120_234) := u_ldAT f_l0_eq (s_aload (i := .aload_n 0) (len := 1) hq_120 (by decide +kernel) rfl (.inr ⟨0, rfl, rfl, rfl⟩) : e_Sn 120 234 (o_load e_okR 0 235)) t_120_235
noncomputable def n_120_233 : e_Y := u_ald 0 (u_old (o_ald e_fcs 234) n_120_234) n_120_234
theorem t_120_233 : e_Sn 120 233 (e_un n_120_233) := u_aldT (s_iald hq_120 (by decide +kernel) rfl : e_Sn 120 233 (o_ald e_fcs 234)) t_120_234
noncomputable def n_120_232 : e_Y := u_bin a_iadd (u_old (o_iadd 233) n_120_233) n_120_233
theorem t_120_232 : e_Sn 120 232 (e_un n_120_232) := u_iaddT (s_iadd hq_120 (by decide +kernel) rfl : e_Sn 120 232 (o_iadd 233)) t_120_233
noncomputable def n_120_231 : e_Y := u_push (.inl 2147483649) n_120_232
theorem t_120_231 : e_Sn 120 231 (e_un n_120_231) := u_pushT (s_iconst (n := (1)) hq_120 (by decide +kernel) rfl ⟨by decide +kernel, by decide +kernel⟩ : e_Sn 120 231 (o_push (.inl 2147483649) 232)) t_120_232
noncomputable def n_120_229 : e_Y := u_ld f_okI f_l4 n_120_231
theorem t_120_229 : e_Sn 120 229 (e_un n_120_229) := u_ldIT f_l4_eq (s_iload (i := .iload 4) (len := 2) hq_120 (by decide +kernel) rfl (.inl ⟨rfl, rfl⟩) : e_Sn 120 229 (o_load e_okI 4 231)) t_120_231
noncomputable def n_120_228 : e_Y := u_ld f_okA f_l0 n_120_229
theorem t_120_228 : e_Sn 120 228 (e_un n_120_228) := u_ldAT f_l0_eq (s_aload (i := .aload_n 0) (len := 1) hq_120 (by decide +kernel) rfl (.inr ⟨0, rfl, rfl, rfl⟩) : e_Sn 120 228 (o_load e_okR 0 229)) t_120_229
noncomputable def n_120_227 : e_Y := u_ld f_okA f_l2 n_120_228
theorem t_120_227 : e_Sn 120 227 (e_un n_120_227) := u_ldAT f_l2_eq (s_aload (i := .aload_n 2) (len := 1) hq_120 (by decide +kernel) rfl (.inr ⟨2, rfl, rfl, rfl⟩) : e_Sn 120 227 (o_load e_okR 2 228)) t_120_228
noncomputable def n_120_225 : e_Y := u_st f_okI f_s5 n_120_227
theorem t_120_225 : e_Sn 120 225 (e_un n_120_225) := u_stIT (fun _ _ _ => f_s5_eq) (s_istore (i := .istore 5) (len := 2) hq_120 (by decide +kernel) rfl (.inl ⟨rfl, rfl⟩) : e_Sn 120 225 (o_store e_okI 5 227)) t_120_227
noncomputable def n_120_222 : e_Y := u_callS 60 5 24 4 n_60_0 n_120_225
theorem t_120_222 : e_Sn 120 222 (e_un n_120_222) := u_callST rfl (s_callSW (index := 111) hq_120 ho_120 hy_60 hp_60 hc_60 hi_60 hd_60 (List.mem_of_getElem? (i := 1561) (by decide +kernel)) hs_60 (by decide +kernel) rfl : e_Sn 120 222 (o_callS 60 5 4 225)) t_60_0 t_120_225
noncomputable def n_120_221 : e_Y := u_ld f_okA f_l3 n_120_222
theorem t_120_221 : e_Sn 120 221 (e_un n_120_221) := u_ldAT f_l3_eq (s_aload (i := .aload_n 3) (len := 1) hq_120 (by decide +kernel) rfl (.inr ⟨3, rfl, rfl, rfl⟩) : e_Sn 120 221 (o_load e_okR 3 222)) t_120_222
noncomputable def n_120_220 : e_Y := u_ald 0 (u_old (o_ald e_fcs 221) n_120_221) n_120_221
theorem t_120_220 : e_Sn 120 220 (e_un n_120_220) := u_aldT (s_iald hq_120 (by decide +kernel) rfl : e_Sn 120 220 (o_ald e_fcs 221)) t_120_221
noncomputable def n_120_219 : e_Y := u_bin a_iadd (u_old (o_iadd 220) n_120_220) n_120_220
theorem t_120_219 : e_Sn 120 219 (e_un n_120_219) := u_iaddT (s_iadd hq_120 (by decide +kernel) rfl : e_Sn 120 219 (o_iadd 220)) t_120_220
noncomputable def n_120_218 : e_Y := u_push (.inl 2147483650) n_120_219
theorem t_120_218 : e_Sn 120 218 (e_un n_120_218) := u_pushT (s_iconst (n := (2)) hq_120 (by decide +kernel) rfl ⟨by decide +kernel, by decide +kernel⟩ : e_Sn 120 218 (o_push (.inl 2147483650) 219)) t_120_219
noncomputable def n_120_216 : e_Y := u_ld f_okI f_l4 n_120_218
theorem t_120_216 : e_Sn 120 216 (e_un n_120_216) := u_ldIT f_l4_eq (s_iload (i := .iload 4) (len := 2) hq_120 (by decide +kernel) rfl (.inl ⟨rfl, rfl⟩) : e_Sn 120 216 (o_load e_okI 4 218)) t_120_218
noncomputable def n_120_215 : e_Y := u_ld f_okA f_l0 n_120_216
theorem t_120_215 : e_Sn 120 215 (e_un n_120_215) := u_ldAT f_l0_eq (s_aload (i := .aload_n 0) (len := 1) hq_120 (by decide +kernel) rfl (.inr ⟨0, rfl, rfl, rfl⟩) : e_Sn 120 215 (o_load e_okR 0 216)) t_120_216
noncomputable def n_120_214 : e_Y := u_ald 0 (u_old (o_ald e_fcs 215) n_120_215) n_120_215
theorem t_120_214 : e_Sn 120 214 (e_un n_120_214) := u_aldT (s_iald hq_120 (by decide +kernel) rfl : e_Sn 120 214 (o_ald e_fcs 215)) t_120_215
noncomputable def n_120_213 : e_Y := u_bin a_iadd (u_old (o_iadd 214) n_120_214) n_120_214
theorem t_120_213 : e_Sn 120 213 (e_un n_120_213) := u_iaddT (s_iadd hq_120 (by decide +kernel) rfl : e_Sn 120 213 (o_iadd 214)) t_120_214
noncomputable def n_120_212 : e_Y := u_push (.inl 2147483649) n_120_213
theorem t_120_212 : e_Sn 120 212 (e_un n_120_212) := u_pushT (s_iconst (n := (1)) hq_120 (by decide +kernel) rfl ⟨by decide +kernel, by decide +kernel⟩ : e_Sn 120 212 (o_push (.inl 2147483649) 213)) t_120_213
noncomputable def n_120_210 : e_Y := u_ld f_okI f_l4 n_120_212
theorem t_120_210 : e_Sn 120 210 (e_un n_120_210) := u_ldIT f_l4_eq (s_iload (i := .iload 4) (len := 2) hq_120 (by decide +kernel) rfl (.inl ⟨rfl, rfl⟩) : e_Sn 120 210 (o_load e_okI 4 212)) t_120_212
noncomputable def n_120_209 : e_Y := u_ld f_okA f_l0 n_120_210
theorem t_120_209 : e_Sn 120 209 (e_un n_120_209) := u_ldAT f_l0_eq (s_aload (i := .aload_n 0) (len := 1) hq_120 (by decide +kernel) rfl (.inr ⟨0, rfl, rfl, rfl⟩) : e_Sn 120 209 (o_load e_okR 0 210)) t_120_210
noncomputable def n_120_208 : e_Y := u_ld f_okA f_l1 n_120_209
theorem t_120_208 : e_Sn 120 208 (e_un n_120_208) := u_ldAT f_l1_eq (s_aload (i := .aload_n 1) (len := 1) hq_120 (by decide +kernel) rfl (.inr ⟨1, rfl, rfl, rfl⟩) : e_Sn 120 208 (o_load e_okR 1 209)) t_120_209
noncomputable def n_120_40 : e_Y := u_tab (o_switch 2147483648 [208, 248, 366, 382, 395, 408, 421, 434, 447, 487, 515, 528, 568, 608, 636, 664, 692, 732, 772, 824, 864, 916, 944, 996, 1009, 1073, 1086, 1126, 1166, 1206, 1246, 1274, 1302, 1330, 1370, 1398, 1438, 1451] 1464)
theorem t_120_40 : e_Sn 120 40 (e_un n_120_40) := u_tabT (s_switch (dflt := (1424)) (low := (0)) (hi := (37)) (offs := #[(168), (208), (326), (342), (355), (368), (381), (394), (407), (447), (475), (488), (528), (568), (596), (624), (652), (692), (732), (784), (824), (876), (904), (956), (969), (1033), (1046), (1086), (1126), (1166), (1206), (1234), (1262), (1290), (1330), (1358), (1398), (1411)]) (len := 168) hq_120 (by decide +kernel) rfl rfl rfl rfl : e_Sn 120 40 (o_switch 2147483648 [208, 248, 366, 382, 395, 408, 421, 434, 447, 487, 515, 528, 568, 608, 636, 664, 692, 732, 772, 824, 864, 916, 944, 996, 1009, 1073, 1086, 1126, 1166, 1206, 1246, 1274, 1302, 1330, 1370, 1398, 1438, 1451] 1464))
noncomputable def n_120_39 : e_Y := u_bin a_iand (u_old (o_bin Nat.land 40) n_120_40) n_120_40
theorem t_120_39 : e_Sn 120 39 (e_un n_120_39) := u_iandT (s_iand hq_120 (by decide +kernel) rfl : e_Sn 120 39 (o_bin Nat.land 40)) t_120_40
noncomputable def n_120_37 : e_Y := u_push (.inl 2147483711) n_120_39
theorem t_120_37 : e_Sn 120 37 (e_un n_120_37) := u_pushT (s_bipush (n := (63)) hq_120 (by decide +kernel) rfl ⟨by decide +kernel, by decide +kernel⟩ : e_Sn 120 37 (o_push (.inl 2147483711) 39)) t_120_39
noncomputable def n_120_36 : e_Y := u_ald 0 (u_old (o_ald e_fcs 37) n_120_37) n_120_37
theorem t_120_36 : e_Sn 120 36 (e_un n_120_36) := u_aldT (s_iald hq_120 (by decide +kernel) rfl : e_Sn 120 36 (o_ald e_fcs 37)) t_120_37
noncomputable def n_120_34 : e_Y := u_ld f_okI f_l4 n_120_36
theorem t_120_34 : e_Sn 120 34 (e_un n_120_34) := u_ldIT f_l4_eq (s_iload (i := .iload 4) (len := 2) hq_120 (by decide +kernel) rfl (.inl ⟨rfl, rfl⟩) : e_Sn 120 34 (o_load e_okI 4 36)) t_120_36
noncomputable def n_120_33 : e_Y := u_ld f_okA f_l0 n_120_34
theorem t_120_33 : e_Sn 120 33 (e_un n_120_33) := u_ldAT f_l0_eq (s_aload (i := .aload_n 0) (len := 1) hq_120 (by decide +kernel) rfl (.inr ⟨0, rfl, rfl, rfl⟩) : e_Sn 120 33 (o_load e_okR 0 34)) t_120_34
noncomputable def n_120_30 : e_Y := u_jmp y_le (u_old2 (o_cgt 1470 33) 1470 n_120_1470 n_120_33) n_120_1470 n_120_33
theorem t_120_30 : e_Sn 120 30 (e_un n_120_30) := u_cgtT rfl (s_cgt (off := (1440)) hq_120 (by decide +kernel) rfl rfl : e_Sn 120 30 (o_cgt 1470 33)) t_120_1470 t_120_33
noncomputable def n_120_29 : e_Y := u_bin a_isub (u_old (o_isub 30) n_120_30) n_120_30
theorem t_120_29 : e_Sn 120 29 (e_un n_120_29) := u_isubT (s_isub hq_120 (by decide +kernel) rfl : e_Sn 120 29 (o_isub 30)) t_120_30
noncomputable def n_120_27 : e_Y := u_push (.inl 2147483655) n_120_29
theorem t_120_27 : e_Sn 120 27 (e_un n_120_27) := u_pushT (s_bipush (n := (7)) hq_120 (by decide +kernel) rfl ⟨by decide +kernel, by decide +kernel⟩ : e_Sn 120 27 (o_push (.inl 2147483655) 29)) t_120_29
noncomputable def n_120_26 : e_Y := u_old (o_alen e_fcs 27) n_120_27
theorem t_120_26 : e_Sn 120 26 (e_un n_120_26) := u_oldT (s_alen hq_120 (by decide +kernel) rfl : e_Sn 120 26 (o_alen e_fcs 27)) t_120_27 (e_cg_alen e_fcs)
noncomputable def n_120_25 : e_Y := u_ld f_okA f_l0 n_120_26
theorem t_120_25 : e_Sn 120 25 (e_un n_120_25) := u_ldAT f_l0_eq (s_aload (i := .aload_n 0) (len := 1) hq_120 (by decide +kernel) rfl (.inr ⟨0, rfl, rfl, rfl⟩) : e_Sn 120 25 (o_load e_okR 0 26)) t_120_26
noncomputable def n_120_23 : e_Y := u_ld f_okI f_l4 n_120_25
theorem t_120_23 : e_Sn 120 23 (e_un n_120_23) := u_ldIT f_l4_eq (s_iload (i := .iload 4) (len := 2) hq_120 (by decide +kernel) rfl (.inl ⟨rfl, rfl⟩) : e_Sn 120 23 (o_load e_okI 4 25)) t_120_25
noncomputable def n_120_21 : e_Y := u_st f_okI f_s4 n_120_23
theorem t_120_21 : e_Sn 120 21 (e_un n_120_21) := u_stIT (fun _ _ _ => f_s4_eq) (s_istore (i := .istore 4) (len := 2) hq_120 (by decide +kernel) rfl (.inl ⟨rfl, rfl⟩) : e_Sn 120 21 (o_store e_okI 4 23)) t_120_23
noncomputable def n_120_20 : e_Y := u_push (.inl 2147483648) n_120_21
theorem t_120_20 : e_Sn 120 20 (e_un n_120_20) := u_pushT (s_iconst (n := (0)) hq_120 (by decide +kernel) rfl ⟨by decide +kernel, by decide +kernel⟩ : e_Sn 120 20 (o_push (.inl 2147483648) 21)) t_120_21
noncomputable def n_120_19 : e_Y := u_st f_okA f_s3 n_120_20
theorem t_120_19 : e_Sn 120 19 (e_un n_120_19) := u_stAT (fun _ _ _ => f_s3_eq) (s_astore (i := .astore_n 3) (len := 1) hq_120 (by decide +kernel) rfl (.inr ⟨3, rfl, rfl, rfl⟩) : e_Sn 120 19 (o_store e_okR 3 20)) t_120_20
noncomputable def n_120_17 : e_Y := u_tab (o_newa 2 (e_L 9223372036854775808) 19)
theorem t_120_17 : e_Sn 120 17 (e_un n_120_17) := u_tabT (s_newJ (List.mem_of_getElem? (i := 279) (by decide +kernel)) hq_120 (by decide +kernel) rfl : e_Sn 120 17 (o_newa 2 (e_L 9223372036854775808) 19))
noncomputable def n_120_16 : e_Y := u_push (.inl 2147483649) n_120_17
theorem t_120_16 : e_Sn 120 16 (e_un n_120_16) := u_pushT (s_iconst (n := (1)) hq_120 (by decide +kernel) rfl ⟨by decide +kernel, by decide +kernel⟩ : e_Sn 120 16 (o_push (.inl 2147483649) 17)) t_120_17
noncomputable def n_120_15 : e_Y := u_st f_okA f_s2 n_120_16
theorem t_120_15 : e_Sn 120 15 (e_un n_120_15) := u_stAT (fun _ _ _ => f_s2_eq) (s_astore (i := .astore_n 2) (len := 1) hq_120 (by decide +kernel) rfl (.inr ⟨2, rfl, rfl, rfl⟩) : e_Sn 120 15 (o_store e_okR 2 16)) t_120_16
noncomputable def n_120_12 : e_Y := u_tab (o_callI 61 1 1 15)
theorem t_120_12 : e_Sn 120 12 (e_un n_120_12) := u_tabT (s_callI (index := 110) hq_120 ho_120 hy_61 hp_61 hc_61 hi_61 hd_61 (List.mem_of_getElem? (i := 1740) (by decide +kernel)) rfl rfl hs_61 (by decide +kernel) rfl : e_Sn 120 12 (o_callI 61 1 1 15))
noncomputable def n_120_11 : e_Y := u_old (o_dup 12) n_120_12
theorem t_120_11 : e_Sn 120 11 (e_un n_120_11) := u_oldT (s_dup hq_120 (by decide +kernel) rfl : e_Sn 120 11 (o_dup 12)) t_120_12 e_cg_dup
noncomputable def n_120_8 : e_Y := u_tab (o_new 12 5 ef_12 11)
theorem t_120_8 : e_Sn 120 8 (e_un n_120_8) := u_tabT (s_new (index := 108) (ci := 12) (N := 5) (C := er_12) (T := et_12) (ty0 := ey_12) (fv := eg_12) hq_120 ho_120 rfl ei_12 eo_12 (List.mem_of_getElem? (i := 1738) (by decide +kernel)) (List.mem_of_getElem? (i := 1739) (by decide +kernel)) (List.mem_of_getElem? (i := 151) (by decide +kernel)) eh_12 rfl (e_newrel ek_12) (by decide +kernel) rfl : e_Sn 120 8 (o_new 12 5 ef_12 11))
noncomputable def n_120_7 : e_Y := u_st f_okA f_s1 n_120_8
theorem t_120_7 : e_Sn 120 7 (e_un n_120_7) := u_stAT (fun _ _ _ => f_s1_eq) (s_astore (i := .astore_n 1) (len := 1) hq_120 (by decide +kernel) rfl (.inr ⟨1, rfl, rfl, rfl⟩) : e_Sn 120 7 (o_store e_okR 1 8)) t_120_8
noncomputable def n_120_4 : e_Y := u_tab (o_callI 0 1 1 7)
theorem t_120_4 : e_Sn 120 4 (e_un n_120_4) := u_tabT (s_callI (index := 107) hq_120 ho_120 hy_0 hp_0 hc_0 hi_0 hd_0 (List.mem_of_getElem? (i := 186) (by decide +kernel)) rfl rfl hs_0 (by decide +kernel) rfl : e_Sn 120 4 (o_callI 0 1 1 7))
noncomputable def n_120_3 : e_Y := u_old (o_dup 4) n_120_4
theorem t_120_3 : e_Sn 120 3 (e_un n_120_3) := u_oldT (s_dup hq_120 (by decide +kernel) rfl : e_Sn 120 3 (o_dup 4)) t_120_4 e_cg_dup
noncomputable def n_120_0 : e_Y := u_tab (o_new 0 17 ef_0 3)
theorem t_120_0 : e_Sn 120 0 (e_un n_120_0) := u_tabT (s_new (index := 8) (ci := 0) (N := 17) (C := er_0) (T := et_0) (ty0 := ey_0) (fv := eg_0) hq_120 ho_120 rfl ei_0 eo_0 (List.mem_of_getElem? (i := 184) (by decide +kernel)) (List.mem_of_getElem? (i := 185) (by decide +kernel)) (List.mem_of_getElem? (i := 138) (by decide +kernel)) eh_0 rfl (e_newrel ek_0) (by decide +kernel) rfl : e_Sn 120 0 (o_new 0 17 ef_0 3))
noncomputable def e_tb_120 : e_X := (e_br 19 (e_br 7 (e_br 3 (e_lf 0 (e_un n_120_0)) (e_lf 3 (e_un n_120_3))) (e_br 11 (e_lf 7 (e_un n_120_7)) (e_br 15 (e_lf 11 (e_un n_120_11)) (e_lf 15 (e_un n_120_15))))) (e_br 248 (e_br 23 (e_lf 19 (e_un n_120_19)) (e_br 208 (e_lf 23 (e_un n_120_23)) (e_lf 208 (e_un n_120_208)))) (e_br 395 (e_lf 248 (e_un n_120_248)) (e_br 1464 (e_lf 395 (e_un n_120_395)) (e_lf 1464 (e_un n_120_1464))))))
theorem e_tk_120 : e_Tb 120 e_tb_120 := (e_brT (e_brT (e_brT (e_lfT t_120_0) (e_lfT t_120_3)) (e_brT (e_lfT t_120_7) (e_brT (e_lfT t_120_11) (e_lfT t_120_15)))) (e_brT (e_brT (e_lfT t_120_19) (e_brT (e_lfT t_120_23) (e_lfT t_120_208))) (e_brT (e_lfT t_120_248) (e_brT (e_lfT t_120_395) (e_lfT t_120_1464)))))
end SN
