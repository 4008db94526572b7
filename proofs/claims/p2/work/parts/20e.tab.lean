/-! TABLES, by program -/
section SN
theorem hq_80 : (e_ml[80]?).map (·.2.1) = some prog_20_method_19_code := rfl
theorem ho_80 : (e_ml[80]?).map (·.1.cls) = some "PlateroomprinterModel$Run" := rfl
theorem hr_80 : (e_ml[80]?).map (·.2.2.2) = some none := rfl
noncomputable def n_80_482 : e_Y := u_tab (o_retv)
theorem t_80_482 : e_Sn 80 482 (e_un n_80_482) := u_tabT (s_vret hq_80 hr_80 (by decide +kernel) : e_Sn 80 482 (o_retv))
noncomputable def n_80_391 : e_Y := n_80_482
theorem t_80_391 : e_Sn 80 391 (e_un n_80_391) := u_gotoT (s_goto (off := (91)) hq_80 (by decide +kernel) rfl : e_Sn 80 391 (o_goto 482)) t_80_482
noncomputable def n_80_388 : e_Y := u_callV 16 79 2 21 2 n_79_0 n_80_391
theorem t_80_388 : e_Sn 80 388 (e_un n_80_388) := u_callVT rfl (s_callV (ci := 16) (C := er_16) (T := et_16) (N := 5) (index := 213) hq_80 ho_80 hy_79 hp_79 hc_79 hi_79 hd_79 (List.mem_of_getElem? (i := 2295) (by decide +kernel)) hs_79 (List.mem_of_getElem? (i := 91) (by decide +kernel)) rfl (by decide +kernel) rfl : e_Sn 80 388 (o_callV (e_s1 16 79 2) 2 391)) t_79_0 t_80_391
noncomputable def n_80_386 : e_Y := u_ld f_okA f_l11 n_80_388
theorem t_80_386 : e_Sn 80 386 (e_un n_80_386) := u_ldAT f_l11_eq (s_aload (i := .aload 11) (len := 2) hq_80 (by decide +kernel) rfl (.inl ⟨rfl, rfl⟩) : e_Sn 80 386 (o_load e_okR 11 388)) t_80_388
noncomputable def n_80_385 : e_Y := u_ld f_okA f_l0 n_80_386
theorem t_80_385 : e_Sn 80 385 (e_un n_80_385) := u_ldAT f_l0_eq (s_aload (i := .aload_n 0) (len := 1) hq_80 (by decide +kernel) rfl (.inr ⟨0, rfl, rfl, rfl⟩) : e_Sn 80 385 (o_load e_okR 0 386)) t_80_386
noncomputable def n_80_382 : e_Y := u_old (o_putf (e_f1 15 3) e_okI 385) n_80_385
theorem t_80_382 : e_Sn 80 382 (e_un n_80_382) := u_oldT (s_putf (ty0 := ey_15) (ok := e_okI) (C := er_15) (T := et_15) (N := 8) (ref := "PlateroomprinterModel$Row") (index := 111) (ci := 15) (k := 3) hq_80 ho_80 ⟨rfl, by decide, ei_15, (List.mem_of_getElem? (i := 2127) (by decide +kernel)), .inl rfl⟩ eo_15 en_15 e_oksI (.inl rfl) (by decide +kernel) rfl : e_Sn 80 382 (o_putf (e_f1 15 3) e_okI 385)) t_80_385 (e_cg_putf (e_f1 15 3) e_okI)
noncomputable def n_80_379 : e_Y := u_callV 16 84 4 23 3 n_84_0 n_80_382
theorem t_80_379 : e_Sn 80 379 (e_un n_80_379) := u_callVT rfl (s_callV (ci := 16) (C := er_16) (T := et_16) (N := 5) (index := 210) hq_80 ho_80 hy_84 hp_84 hc_84 hi_84 hd_84 (List.mem_of_getElem? (i := 2291) (by decide +kernel)) hs_84 (List.mem_of_getElem? (i := 90) (by decide +kernel)) rfl (by decide +kernel) rfl : e_Sn 80 379 (o_callV (e_s1 16 84 4) 3 382)) t_84_0 t_80_382
noncomputable def n_80_377 : e_Y := u_push (.inl 2147483747) n_80_379
theorem t_80_377 : e_Sn 80 377 (e_un n_80_377) := u_pushT (s_bipush (n := (99)) hq_80 (by decide +kernel) rfl ⟨by decide +kernel, by decide +kernel⟩ : e_Sn 80 377 (o_push (.inl 2147483747) 379)) t_80_379
noncomputable def n_80_376 : e_Y := u_push (.inl 2147483648) n_80_377
theorem t_80_376 : e_Sn 80 376 (e_un n_80_376) := u_pushT (s_iconst (n := (0)) hq_80 (by decide +kernel) rfl ⟨by decide +kernel, by decide +kernel⟩ : e_Sn 80 376 (o_push (.inl 2147483648) 377)) t_80_377
noncomputable def n_80_375 : e_Y := u_ld f_okA f_l0 n_80_376
theorem t_80_375 : e_Sn 80 375 (e_un n_80_375) := u_ldAT f_l0_eq (s_aload (i := .aload_n 0) (len := 1) hq_80 (by decide +kernel) rfl (.inr ⟨0, rfl, rfl, rfl⟩) : e_Sn 80 375 (o_load e_okR 0 376)) t_80_376
noncomputable def n_80_373 : e_Y := u_ld f_okA f_l11 n_80_375
theorem t_80_373 : e_Sn 80 373 (e_un n_80_373) := u_ldAT f_l11_eq (s_aload (i := .aload 11) (len := 2) hq_80 (by decide +kernel) rfl (.inl ⟨rfl, rfl⟩) : e_Sn 80 373 (o_load e_okR 11 375)) t_80_375
noncomputable def n_80_371 : e_Y := u_st f_okA f_s11 n_80_373
theorem t_80_371 : e_Sn 80 371 (e_un n_80_371) := u_stAT (fun _ _ _ => f_s11_eq) (s_astore (i := .astore 11) (len := 2) hq_80 (by decide +kernel) rfl (.inl ⟨rfl, rfl⟩) : e_Sn 80 371 (o_store e_okR 11 373)) t_80_373
noncomputable def n_80_368 : e_Y := u_tab (o_callI 74 2 2 371)
theorem t_80_368 : e_Sn 80 368 (e_un n_80_368) := u_tabT (s_callI (index := 31) hq_80 ho_80 hy_74 hp_74 hc_74 hi_74 hd_74 (List.mem_of_getElem? (i := 2118) (by decide +kernel)) rfl rfl hs_74 (by decide +kernel) rfl : e_Sn 80 368 (o_callI 74 2 2 371))
noncomputable def n_80_365 : e_Y := u_getf 13 2 (u_old (o_getf (e_f1 13 2) 368) n_80_368) n_80_368
theorem t_80_365 : e_Sn 80 365 (e_un n_80_365) := u_getfT (s_getf (C := er_13) (T := et_13) (N := 3) (ref := "PlateroomprinterModel$Item") (index := 181) (ci := 13) (k := 2) hq_80 ho_80 ⟨rfl, by decide, ei_13, (List.mem_of_getElem? (i := 2241) (by decide +kernel)), .inl rfl⟩ (by decide +kernel) rfl : e_Sn 80 365 (o_getf (e_f1 13 2) 368)) t_80_368
noncomputable def n_80_362 : e_Y := u_callV 16 93 3 22 2 n_93_0 n_80_365
theorem t_80_362 : e_Sn 80 362 (e_un n_80_362) := u_callVT rfl (s_callV (ci := 16) (C := er_16) (T := et_16) (N := 5) (index := 149) hq_80 ho_80 hy_93 hp_93 hc_93 hi_93 hd_93 (List.mem_of_getElem? (i := 2271) (by decide +kernel)) hs_93 (List.mem_of_getElem? (i := 86) (by decide +kernel)) rfl (by decide +kernel) rfl : e_Sn 80 362 (o_callV (e_s1 16 93 3) 2 365)) t_93_0 t_80_365
noncomputable def n_80_361 : e_Y := u_push (.inl 2147483650) n_80_362
theorem t_80_361 : e_Sn 80 361 (e_un n_80_361) := u_pushT (s_iconst (n := (2)) hq_80 (by decide +kernel) rfl ⟨by decide +kernel, by decide +kernel⟩ : e_Sn 80 361 (o_push (.inl 2147483650) 362)) t_80_362
noncomputable def n_80_360 : e_Y := u_ld f_okA f_l0 n_80_361
theorem t_80_360 : e_Sn 80 360 (e_un n_80_360) := u_ldAT f_l0_eq (s_aload (i := .aload_n 0) (len := 1) hq_80 (by decide +kernel) rfl (.inr ⟨0, rfl, rfl, rfl⟩) : e_Sn 80 360 (o_load e_okR 0 361)) t_80_361
noncomputable def n_80_359 : e_Y := u_old (o_dup 360) n_80_360
theorem t_80_359 : e_Sn 80 359 (e_un n_80_359) := u_oldT (s_dup hq_80 (by decide +kernel) rfl : e_Sn 80 359 (o_dup 360)) t_80_360 e_cg_dup
noncomputable def n_80_356 : e_Y := u_tab (o_new 15 8 ef_15 359)
theorem t_80_356 : e_Sn 80 356 (e_un n_80_356) := u_tabT (s_new (index := 29) (ci := 15) (N := 8) (C := er_15) (T := et_15) (ty0 := ey_15) (fv := eg_15) hq_80 ho_80 rfl ei_15 eo_15 (List.mem_of_getElem? (i := 2116) (by decide +kernel)) (List.mem_of_getElem? (i := 2117) (by decide +kernel)) (List.mem_of_getElem? (i := 171) (by decide +kernel)) eh_15 rfl (e_newrel ek_15) (by decide +kernel) rfl : e_Sn 80 356 (o_new 15 8 ef_15 359))
noncomputable def n_80_1 : e_Y := u_tab (o_switch 2147483657 [60, 78, 86, 111, 198, 216, 243, 265, 303, 356, 394] 478)
theorem t_80_1 : e_Sn 80 1 (e_un n_80_1) := u_tabT (s_switch (dflt := (477)) (low := (9)) (hi := (19)) (offs := #[(59), (77), (85), (110), (197), (215), (242), (264), (302), (355), (393)]) (len := 59) hq_80 (by decide +kernel) rfl rfl rfl rfl : e_Sn 80 1 (o_switch 2147483657 [60, 78, 86, 111, 198, 216, 243, 265, 303, 356, 394] 478))
noncomputable def n_80_0 : e_Y := u_ld f_okI f_l1 n_80_1
theorem t_80_0 : e_Sn 80 0 (e_un n_80_0) := u_ldIT f_l1_eq (s_iload (i := .iload_n 1) (len := 1) hq_80 (by decide +kernel) rfl (.inr ⟨1, rfl, rfl, rfl⟩) : e_Sn 80 0 (o_load e_okI 1 1)) t_80_1
noncomputable def e_tb_80 : e_X := (e_br 359 (e_br 356 (e_lf 0 (e_un n_80_0)) (e_lf 356 (e_un n_80_356))) (e_br 371 (e_lf 359 (e_un n_80_359)) (e_lf 371 (e_un n_80_371))))
theorem e_tk_80 : e_Tb 80 e_tb_80 := (e_brT (e_brT (e_lfT t_80_0) (e_lfT t_80_356)) (e_brT (e_lfT t_80_359) (e_lfT t_80_371)))
theorem hq_87 : (e_ml[87]?).map (·.2.1) = some prog_20_method_47_code := rfl
theorem ho_87 : (e_ml[87]?).map (·.1.cls) = some "PlateroomprinterModel$Run" := rfl
theorem hr_87 : (e_ml[87]?).map (·.2.2.2) = some none := rfl
noncomputable def n_87_53 : e_Y := u_tab (o_retv)
theorem t_87_53 : e_Sn 87 53 (e_un n_87_53) := u_tabT (s_vret hq_87 hr_87 (by decide +kernel) : e_Sn 87 53 (o_retv))
noncomputable def n_87_50 : e_Y := u_old (o_putf (e_f1 14 5) e_okR 53) n_87_53
theorem t_87_50 : e_Sn 87 50 (e_un n_87_50) := u_oldT (s_putf (ty0 := ey_14) (ok := e_okR) (C := er_14) (T := et_14) (N := 13) (ref := "PlateroomprinterModel$Machine") (index := 326) (ci := 14) (k := 5) hq_87 ho_87 ⟨rfl, by decide, ei_14, (List.mem_of_getElem? (i := 1906) (by decide +kernel)), .inl rfl⟩ eo_14 en_14 e_oksR (.inl rfl) (by decide +kernel) rfl : e_Sn 87 50 (o_putf (e_f1 14 5) e_okR 53)) t_87_53 (e_cg_putf (e_f1 14 5) e_okR)
noncomputable def n_87_47 : e_Y := u_tab (o_callI 102 1 1 50)
theorem t_87_47 : e_Sn 87 47 (e_un n_87_47) := u_tabT (s_callI (index := 11) hq_87 ho_87 hy_102 hp_102 hc_102 hi_102 hd_102 (List.mem_of_getElem? (i := 2115) (by decide +kernel)) rfl rfl hs_102 (by decide +kernel) rfl : e_Sn 87 47 (o_callI 102 1 1 50))
noncomputable def n_87_46 : e_Y := u_old (o_dup 47) n_87_47
theorem t_87_46 : e_Sn 87 46 (e_un n_87_46) := u_oldT (s_dup hq_87 (by decide +kernel) rfl : e_Sn 87 46 (o_dup 47)) t_87_47 e_cg_dup
noncomputable def n_87_43 : e_Y := u_tab (o_new 19 3 ef_19 46)
theorem t_87_43 : e_Sn 87 43 (e_un n_87_43) := u_tabT (s_new (index := 9) (ci := 19) (N := 3) (C := er_19) (T := et_19) (ty0 := ey_19) (fv := eg_19) hq_87 ho_87 rfl ei_19 eo_19 (List.mem_of_getElem? (i := 2114) (by decide +kernel)) (List.mem_of_getElem? (i := 1751) (by decide +kernel)) (List.mem_of_getElem? (i := 155) (by decide +kernel)) eh_19 rfl (e_newrel ek_19) (by decide +kernel) rfl : e_Sn 87 43 (o_new 19 3 ef_19 46))
noncomputable def n_87_40 : e_Y := u_getf 16 0 (u_old (o_getf (e_f1 16 0) 43) n_87_43) n_87_43
theorem t_87_40 : e_Sn 87 40 (e_un n_87_40) := u_getfT (s_getf (C := er_16) (T := et_16) (N := 5) (ref := "PlateroomprinterModel$Run") (index := 25) (ci := 16) (k := 0) hq_87 ho_87 ⟨rfl, by decide, ei_16, (List.mem_of_getElem? (i := 2150) (by decide +kernel)), .inl rfl⟩ (by decide +kernel) rfl : e_Sn 87 40 (o_getf (e_f1 16 0) 43)) t_87_43
noncomputable def n_87_39 : e_Y := u_ld f_okA f_l0 n_87_40
theorem t_87_39 : e_Sn 87 39 (e_un n_87_39) := u_ldAT f_l0_eq (s_aload (i := .aload_n 0) (len := 1) hq_87 (by decide +kernel) rfl (.inr ⟨0, rfl, rfl, rfl⟩) : e_Sn 87 39 (o_load e_okR 0 40)) t_87_40
noncomputable def n_87_36 : e_Y := u_old (o_putf (e_f1 14 6) e_okR 39) n_87_39
theorem t_87_36 : e_Sn 87 36 (e_un n_87_36) := u_oldT (s_putf (ty0 := ey_14) (ok := e_okR) (C := er_14) (T := et_14) (N := 13) (ref := "PlateroomprinterModel$Machine") (index := 356) (ci := 14) (k := 6) hq_87 ho_87 ⟨rfl, by decide, ei_14, (List.mem_of_getElem? (i := 1909) (by decide +kernel)), .inl rfl⟩ eo_14 en_14 e_oksA (.inl rfl) (by decide +kernel) rfl : e_Sn 87 36 (o_putf (e_f1 14 6) e_okR 39)) t_87_39 (e_cg_putf (e_f1 14 6) e_okR)
noncomputable def n_87_34 : e_Y := u_tab (o_newa 1 (e_I 2147483648) 36)
theorem t_87_34 : e_Sn 87 34 (e_un n_87_34) := u_tabT (s_newZ (List.mem_of_getElem? (i := 1819) (by decide +kernel)) hq_87 (by decide +kernel) rfl : e_Sn 87 34 (o_newa 1 (e_I 2147483648) 36))
noncomputable def n_87_31 : e_Y := u_push (.inl 2147487744) n_87_34
theorem t_87_31 : e_Sn 87 31 (e_un n_87_31) := u_pushT (s_sipush (n := (4096)) hq_87 (by decide +kernel) rfl ⟨by decide +kernel, by decide +kernel⟩ : e_Sn 87 31 (o_push (.inl 2147487744) 34)) t_87_34
noncomputable def n_87_28 : e_Y := u_getf 16 0 (u_old (o_getf (e_f1 16 0) 31) n_87_31) n_87_31
theorem t_87_28 : e_Sn 87 28 (e_un n_87_28) := u_getfT (s_getf (C := er_16) (T := et_16) (N := 5) (ref := "PlateroomprinterModel$Run") (index := 25) (ci := 16) (k := 0) hq_87 ho_87 ⟨rfl, by decide, ei_16, (List.mem_of_getElem? (i := 2150) (by decide +kernel)), .inl rfl⟩ (by decide +kernel) rfl : e_Sn 87 28 (o_getf (e_f1 16 0) 31)) t_87_31
noncomputable def n_87_27 : e_Y := u_ld f_okA f_l0 n_87_28
theorem t_87_27 : e_Sn 87 27 (e_un n_87_27) := u_ldAT f_l0_eq (s_aload (i := .aload_n 0) (len := 1) hq_87 (by decide +kernel) rfl (.inr ⟨0, rfl, rfl, rfl⟩) : e_Sn 87 27 (o_load e_okR 0 28)) t_87_28
noncomputable def n_87_24 : e_Y := u_old (o_putf (e_f1 14 7) e_okR 27) n_87_27
theorem t_87_24 : e_Sn 87 24 (e_un n_87_24) := u_oldT (s_putf (ty0 := ey_14) (ok := e_okR) (C := er_14) (T := et_14) (N := 13) (ref := "PlateroomprinterModel$Machine") (index := 502) (ci := 14) (k := 7) hq_87 ho_87 ⟨rfl, by decide, ei_14, (List.mem_of_getElem? (i := 1912) (by decide +kernel)), .inl rfl⟩ eo_14 en_14 e_oksA (.inl rfl) (by decide +kernel) rfl : e_Sn 87 24 (o_putf (e_f1 14 7) e_okR 27)) t_87_27 (e_cg_putf (e_f1 14 7) e_okR)
noncomputable def n_87_21 : e_Y := u_getf 14 6 (u_old (o_getf (e_f1 14 6) 24) n_87_24) n_87_24
theorem t_87_21 : e_Sn 87 21 (e_un n_87_21) := u_getfT (s_getf (C := er_14) (T := et_14) (N := 13) (ref := "PlateroomprinterModel$Machine") (index := 356) (ci := 14) (k := 6) hq_87 ho_87 ⟨rfl, by decide, ei_14, (List.mem_of_getElem? (i := 1909) (by decide +kernel)), .inl rfl⟩ (by decide +kernel) rfl : e_Sn 87 21 (o_getf (e_f1 14 6) 24)) t_87_24
noncomputable def n_87_18 : e_Y := u_getf 16 0 (u_old (o_getf (e_f1 16 0) 21) n_87_21) n_87_21
theorem t_87_18 : e_Sn 87 18 (e_un n_87_18) := u_getfT (s_getf (C := er_16) (T := et_16) (N := 5) (ref := "PlateroomprinterModel$Run") (index := 25) (ci := 16) (k := 0) hq_87 ho_87 ⟨rfl, by decide, ei_16, (List.mem_of_getElem? (i := 2150) (by decide +kernel)), .inl rfl⟩ (by decide +kernel) rfl : e_Sn 87 18 (o_getf (e_f1 16 0) 21)) t_87_21
noncomputable def n_87_17 : e_Y := u_ld f_okA f_l0 n_87_18
theorem t_87_17 : e_Sn 87 17 (e_un n_87_17) := u_ldAT f_l0_eq (s_aload (i := .aload_n 0) (len := 1) hq_87 (by decide +kernel) rfl (.inr ⟨0, rfl, rfl, rfl⟩) : e_Sn 87 17 (o_load e_okR 0 18)) t_87_18
noncomputable def n_87_14 : e_Y := u_getf 16 0 (u_old (o_getf (e_f1 16 0) 17) n_87_17) n_87_17
theorem t_87_14 : e_Sn 87 14 (e_un n_87_14) := u_getfT (s_getf (C := er_16) (T := et_16) (N := 5) (ref := "PlateroomprinterModel$Run") (index := 25) (ci := 16) (k := 0) hq_87 ho_87 ⟨rfl, by decide, ei_16, (List.mem_of_getElem? (i := 2150) (by decide +kernel)), .inl rfl⟩ (by decide +kernel) rfl : e_Sn 87 14 (o_getf (e_f1 16 0) 17)) t_87_17
noncomputable def n_87_13 : e_Y := u_ld f_okA f_l0 n_87_14
theorem t_87_13 : e_Sn 87 13 (e_un n_87_13) := u_ldAT f_l0_eq (s_aload (i := .aload_n 0) (len := 1) hq_87 (by decide +kernel) rfl (.inr ⟨0, rfl, rfl, rfl⟩) : e_Sn 87 13 (o_load e_okR 0 14)) t_87_14
noncomputable def n_87_10 : e_Y := u_old (o_putf (e_f1 14 8) e_okI 13) n_87_13
theorem t_87_10 : e_Sn 87 10 (e_un n_87_10) := u_oldT (s_putf (ty0 := ey_14) (ok := e_okI) (C := er_14) (T := et_14) (N := 13) (ref := "PlateroomprinterModel$Machine") (index := 499) (ci := 14) (k := 8) hq_87 ho_87 ⟨rfl, by decide, ei_14, (List.mem_of_getElem? (i := 1916) (by decide +kernel)), .inl rfl⟩ eo_14 en_14 e_oksI (.inl rfl) (by decide +kernel) rfl : e_Sn 87 10 (o_putf (e_f1 14 8) e_okI 13)) t_87_13 (e_cg_putf (e_f1 14 8) e_okI)
noncomputable def n_87_9 : e_Y := u_bin a_iadd (u_old (o_iadd 10) n_87_10) n_87_10
theorem t_87_9 : e_Sn 87 9 (e_un n_87_9) := u_iaddT (s_iadd hq_87 (by decide +kernel) rfl : e_Sn 87 9 (o_iadd 10)) t_87_10
noncomputable def n_87_8 : e_Y := u_push (.inl 2147483649) n_87_9
theorem t_87_8 : e_Sn 87 8 (e_un n_87_8) := u_pushT (s_iconst (n := (1)) hq_87 (by decide +kernel) rfl ⟨by decide +kernel, by decide +kernel⟩ : e_Sn 87 8 (o_push (.inl 2147483649) 9)) t_87_9
noncomputable def n_87_5 : e_Y := u_getf 14 8 (u_old (o_getf (e_f1 14 8) 8) n_87_8) n_87_8
theorem t_87_5 : e_Sn 87 5 (e_un n_87_5) := u_getfT (s_getf (C := er_14) (T := et_14) (N := 13) (ref := "PlateroomprinterModel$Machine") (index := 499) (ci := 14) (k := 8) hq_87 ho_87 ⟨rfl, by decide, ei_14, (List.mem_of_getElem? (i := 1916) (by decide +kernel)), .inl rfl⟩ (by decide +kernel) rfl : e_Sn 87 5 (o_getf (e_f1 14 8) 8)) t_87_8
noncomputable def n_87_4 : e_Y := u_old (o_dup 5) n_87_5
theorem t_87_4 : e_Sn 87 4 (e_un n_87_4) := u_oldT (s_dup hq_87 (by decide +kernel) rfl : e_Sn 87 4 (o_dup 5)) t_87_5 e_cg_dup
noncomputable def n_87_1 : e_Y := u_getf 16 0 (u_old (o_getf (e_f1 16 0) 4) n_87_4) n_87_4
theorem t_87_1 : e_Sn 87 1 (e_un n_87_1) := u_getfT (s_getf (C := er_16) (T := et_16) (N := 5) (ref := "PlateroomprinterModel$Run") (index := 25) (ci := 16) (k := 0) hq_87 ho_87 ⟨rfl, by decide, ei_16, (List.mem_of_getElem? (i := 2150) (by decide +kernel)), .inl rfl⟩ (by decide +kernel) rfl : e_Sn 87 1 (o_getf (e_f1 16 0) 4)) t_87_4
noncomputable def n_87_0 : e_Y := u_ld f_okA f_l0 n_87_1
theorem t_87_0 : e_Sn 87 0 (e_un n_87_0) := u_ldAT f_l0_eq (s_aload (i := .aload_n 0) (len := 1) hq_87 (by decide +kernel) rfl (.inr ⟨0, rfl, rfl, rfl⟩) : e_Sn 87 0 (o_load e_okR 0 1)) t_87_1
noncomputable def e_tb_87 : e_X := (e_br 46 (e_br 36 (e_lf 0 (e_un n_87_0)) (e_lf 36 (e_un n_87_36))) (e_br 50 (e_lf 46 (e_un n_87_46)) (e_lf 50 (e_un n_87_50))))
theorem e_tk_87 : e_Tb 87 e_tb_87 := (e_brT (e_brT (e_lfT t_87_0) (e_lfT t_87_36)) (e_brT (e_lfT t_87_46) (e_lfT t_87_50)))
theorem hq_88 : (e_ml[88]?).map (·.2.1) = some prog_20_method_38_code := rfl
theorem ho_88 : (e_ml[88]?).map (·.1.cls) = some "PlateroomprinterModel$Run" := rfl
theorem hr_88 : (e_ml[88]?).map (·.2.2.2) = some none := rfl
noncomputable def n_88_465 : e_Y := u_tab (o_retv)
theorem t_88_465 : e_Sn 88 465 (e_un n_88_465) := u_tabT (s_vret hq_88 hr_88 (by decide +kernel) : e_Sn 88 465 (o_retv))
noncomputable def n_88_462 : e_Y := u_callV 16 87 1 20 1 n_87_0 n_88_465
theorem t_88_462 : e_Sn 88 462 (e_un n_88_462) := u_callVT rfl (s_callV (ci := 16) (C := er_16) (T := et_16) (N := 5) (index := 429) hq_88 ho_88 hy_87 hp_87 hc_87 hi_87 hd_87 (List.mem_of_getElem? (i := 2877) (by decide +kernel)) hs_87 (List.mem_of_getElem? (i := 118) (by decide +kernel)) rfl (by decide +kernel) rfl : e_Sn 88 462 (o_callV (e_s1 16 87 1) 1 465)) t_87_0 t_88_465
noncomputable def n_88_461 : e_Y := u_ld f_okA f_l0 n_88_462
theorem t_88_461 : e_Sn 88 461 (e_un n_88_461) := u_ldAT f_l0_eq (s_aload (i := .aload_n 0) (len := 1) hq_88 (by decide +kernel) rfl (.inr ⟨0, rfl, rfl, rfl⟩) : e_Sn 88 461 (o_load e_okR 0 462)) t_88_462
noncomputable def n_88_9 : e_Y := u_tab (o_switch 2147483683 [92, 92, 125, 187, 187, 239, 269, 269, 291, 307, 322, 337, 353, 370, 392, 406, 435] 461)
theorem t_88_9 : e_Sn 88 9 (e_un n_88_9) := u_tabT (s_switch (dflt := (452)) (low := (35)) (hi := (51)) (offs := #[(83), (83), (116), (178), (178), (230), (260), (260), (282), (298), (313), (328), (344), (361), (383), (397), (426)]) (len := 83) hq_88 (by decide +kernel) rfl rfl rfl rfl : e_Sn 88 9 (o_switch 2147483683 [92, 92, 125, 187, 187, 239, 269, 269, 291, 307, 322, 337, 353, 370, 392, 406, 435] 461))
noncomputable def n_88_8 : e_Y := u_ld f_okI f_l1 n_88_9
theorem t_88_8 : e_Sn 88 8 (e_un n_88_8) := u_ldIT f_l1_eq (s_iload (i := .iload_n 1) (len := 1) hq_88 (by decide +kernel) rfl (.inr ⟨1, rfl, rfl, rfl⟩) : e_Sn 88 8 (o_load e_okI 1 9)) t_88_9
noncomputable def n_88_7 : e_Y := u_st f_okA f_s2 n_88_8
theorem t_88_7 : e_Sn 88 7 (e_un n_88_7) := u_stAT (fun _ _ _ => f_s2_eq) (s_astore (i := .astore_n 2) (len := 1) hq_88 (by decide +kernel) rfl (.inr ⟨2, rfl, rfl, rfl⟩) : e_Sn 88 7 (o_store e_okR 2 8)) t_88_8
noncomputable def n_88_4 : e_Y := u_getf 14 2 (u_old (o_getf (e_f1 14 2) 7) n_88_7) n_88_7
theorem t_88_4 : e_Sn 88 4 (e_un n_88_4) := u_getfT (s_getf (C := er_14) (T := et_14) (N := 13) (ref := "PlateroomprinterModel$Machine") (index := 219) (ci := 14) (k := 2) hq_88 ho_88 ⟨rfl, by decide, ei_14, (List.mem_of_getElem? (i := 1897) (by decide +kernel)), .inl rfl⟩ (by decide +kernel) rfl : e_Sn 88 4 (o_getf (e_f1 14 2) 7)) t_88_7
noncomputable def n_88_1 : e_Y := u_getf 16 0 (u_old (o_getf (e_f1 16 0) 4) n_88_4) n_88_4
theorem t_88_1 : e_Sn 88 1 (e_un n_88_1) := u_getfT (s_getf (C := er_16) (T := et_16) (N := 5) (ref := "PlateroomprinterModel$Run") (index := 25) (ci := 16) (k := 0) hq_88 ho_88 ⟨rfl, by decide, ei_16, (List.mem_of_getElem? (i := 2150) (by decide +kernel)), .inl rfl⟩ (by decide +kernel) rfl : e_Sn 88 1 (o_getf (e_f1 16 0) 4)) t_88_4
noncomputable def n_88_0 : e_Y := u_ld f_okA f_l0 n_88_1
theorem t_88_0 : e_Sn 88 0 (e_un n_88_0) := u_ldAT f_l0_eq (s_aload (i := .aload_n 0) (len := 1) hq_88 (by decide +kernel) rfl (.inr ⟨0, rfl, rfl, rfl⟩) : e_Sn 88 0 (o_load e_okR 0 1)) t_88_1
noncomputable def e_tb_88 : e_X := (e_br 461 (e_lf 0 (e_un n_88_0)) (e_lf 461 (e_un n_88_461)))
theorem e_tk_88 : e_Tb 88 e_tb_88 := (e_brT (e_lfT t_88_0) (e_lfT t_88_461))
theorem hq_86 : (e_ml[86]?).map (·.2.1) = some prog_20_method_17_code := rfl
theorem ho_86 : (e_ml[86]?).map (·.1.cls) = some "PlateroomprinterModel$Run" := rfl
theorem hr_86 : (e_ml[86]?).map (·.2.2.2) = some none := rfl
noncomputable def n_86_61 : e_Y := u_tab (o_retv)
theorem t_86_61 : e_Sn 86 61 (e_un n_86_61) := u_tabT (s_vret hq_86 hr_86 (by decide +kernel) : e_Sn 86 61 (o_retv))
noncomputable def n_86_58 : e_Y := u_callV 16 88 8 27 2 n_88_0 n_86_61
theorem t_86_58 : e_Sn 86 58 (e_un n_86_58) := u_callVT rfl (s_callV (ci := 16) (C := er_16) (T := et_16) (N := 5) (index := 197) hq_86 ho_86 hy_88 hp_88 hc_88 hi_88 hd_88 (List.mem_of_getElem? (i := 2432) (by decide +kernel)) hs_88 (List.mem_of_getElem? (i := 103) (by decide +kernel)) rfl (by decide +kernel) rfl : e_Sn 86 58 (o_callV (e_s1 16 88 8) 2 61)) t_88_0 t_86_61
noncomputable def n_86_57 : e_Y := u_ld f_okI f_l1 n_86_58
theorem t_86_57 : e_Sn 86 57 (e_un n_86_57) := u_ldIT f_l1_eq (s_iload (i := .iload_n 1) (len := 1) hq_86 (by decide +kernel) rfl (.inr ⟨1, rfl, rfl, rfl⟩) : e_Sn 86 57 (o_load e_okI 1 58)) t_86_58
noncomputable def n_86_56 : e_Y := u_ld f_okA f_l0 n_86_57
theorem t_86_56 : e_Sn 86 56 (e_un n_86_56) := u_ldAT f_l0_eq (s_aload (i := .aload_n 0) (len := 1) hq_86 (by decide +kernel) rfl (.inr ⟨0, rfl, rfl, rfl⟩) : e_Sn 86 56 (o_load e_okR 0 57)) t_86_57
noncomputable def n_86_45 : e_Y := u_jmp y_ge (u_old2 (o_clt 48 56) 48 (u_at 48) n_86_56) (u_at 48) n_86_56
theorem t_86_45 : e_Sn 86 45 (e_un n_86_45) := u_cltT rfl (s_cge (off := (11)) hq_86 (by decide +kernel) rfl rfl : e_Sn 86 45 (o_clt 48 56)) u_atT t_86_56
noncomputable def n_86_43 : e_Y := u_push (.inl 2147483683) n_86_45
theorem t_86_43 : e_Sn 86 43 (e_un n_86_43) := u_pushT (s_bipush (n := (35)) hq_86 (by decide +kernel) rfl ⟨by decide +kernel, by decide +kernel⟩ : e_Sn 86 43 (o_push (.inl 2147483683) 45)) t_86_45
noncomputable def n_86_42 : e_Y := u_ld f_okI f_l1 n_86_43
theorem t_86_42 : e_Sn 86 42 (e_un n_86_42) := u_ldIT f_l1_eq (s_iload (i := .iload_n 1) (len := 1) hq_86 (by decide +kernel) rfl (.inr ⟨1, rfl, rfl, rfl⟩) : e_Sn 86 42 (o_load e_okI 1 43)) t_86_43
noncomputable def n_86_31 : e_Y := u_jmp y_ge (u_old2 (o_clt 34 42) 34 (u_at 34) n_86_42) (u_at 34) n_86_42
theorem t_86_31 : e_Sn 86 31 (e_un n_86_31) := u_cltT rfl (s_cge (off := (11)) hq_86 (by decide +kernel) rfl rfl : e_Sn 86 31 (o_clt 34 42)) u_atT t_86_42
noncomputable def n_86_29 : e_Y := u_push (.inl 2147483675) n_86_31
theorem t_86_29 : e_Sn 86 29 (e_un n_86_29) := u_pushT (s_bipush (n := (27)) hq_86 (by decide +kernel) rfl ⟨by decide +kernel, by decide +kernel⟩ : e_Sn 86 29 (o_push (.inl 2147483675) 31)) t_86_31
noncomputable def n_86_28 : e_Y := u_ld f_okI f_l1 n_86_29
theorem t_86_28 : e_Sn 86 28 (e_un n_86_28) := u_ldIT f_l1_eq (s_iload (i := .iload_n 1) (len := 1) hq_86 (by decide +kernel) rfl (.inr ⟨1, rfl, rfl, rfl⟩) : e_Sn 86 28 (o_load e_okI 1 29)) t_86_29
noncomputable def n_86_25 : e_Y := n_86_61
theorem t_86_25 : e_Sn 86 25 (e_un n_86_25) := u_gotoT (s_goto (off := (36)) hq_86 (by decide +kernel) rfl : e_Sn 86 25 (o_goto 61)) t_86_61
noncomputable def n_86_22 : e_Y := u_callV 16 80 14 33 2 n_80_0 n_86_25
theorem t_86_22 : e_Sn 86 22 (e_un n_86_22) := u_callVT rfl (s_callV (ci := 16) (C := er_16) (T := et_16) (N := 5) (index := 188) hq_86 ho_86 hy_80 hp_80 hc_80 hi_80 hd_80 (List.mem_of_getElem? (i := 2283) (by decide +kernel)) hs_80 (List.mem_of_getElem? (i := 88) (by decide +kernel)) rfl (by decide +kernel) rfl : e_Sn 86 22 (o_callV (e_s1 16 80 14) 2 25)) t_80_0 t_86_25
noncomputable def n_86_21 : e_Y := u_ld f_okI f_l1 n_86_22
theorem t_86_21 : e_Sn 86 21 (e_un n_86_21) := u_ldIT f_l1_eq (s_iload (i := .iload_n 1) (len := 1) hq_86 (by decide +kernel) rfl (.inr ⟨1, rfl, rfl, rfl⟩) : e_Sn 86 21 (o_load e_okI 1 22)) t_86_22
noncomputable def n_86_20 : e_Y := u_ld f_okA f_l0 n_86_21
theorem t_86_20 : e_Sn 86 20 (e_un n_86_20) := u_ldAT f_l0_eq (s_aload (i := .aload_n 0) (len := 1) hq_86 (by decide +kernel) rfl (.inr ⟨0, rfl, rfl, rfl⟩) : e_Sn 86 20 (o_load e_okR 0 21)) t_86_21
noncomputable def n_86_17 : e_Y := u_jmp y_ge (u_old2 (o_clt 20 28) 20 n_86_20 n_86_28) n_86_20 n_86_28
theorem t_86_17 : e_Sn 86 17 (e_un n_86_17) := u_cltT rfl (s_cge (off := (11)) hq_86 (by decide +kernel) rfl rfl : e_Sn 86 17 (o_clt 20 28)) t_86_20 t_86_28
noncomputable def n_86_15 : e_Y := u_push (.inl 2147483669) n_86_17
theorem t_86_15 : e_Sn 86 15 (e_un n_86_15) := u_pushT (s_bipush (n := (21)) hq_86 (by decide +kernel) rfl ⟨by decide +kernel, by decide +kernel⟩ : e_Sn 86 15 (o_push (.inl 2147483669) 17)) t_86_17
noncomputable def n_86_14 : e_Y := u_ld f_okI f_l1 n_86_15
theorem t_86_14 : e_Sn 86 14 (e_un n_86_14) := u_ldIT f_l1_eq (s_iload (i := .iload_n 1) (len := 1) hq_86 (by decide +kernel) rfl (.inr ⟨1, rfl, rfl, rfl⟩) : e_Sn 86 14 (o_load e_okI 1 15)) t_86_15
noncomputable def n_86_3 : e_Y := u_jmp y_ge (u_old2 (o_clt 6 14) 6 (u_at 6) n_86_14) (u_at 6) n_86_14
theorem t_86_3 : e_Sn 86 3 (e_un n_86_3) := u_cltT rfl (s_cge (off := (11)) hq_86 (by decide +kernel) rfl rfl : e_Sn 86 3 (o_clt 6 14)) u_atT t_86_14
noncomputable def n_86_1 : e_Y := u_push (.inl 2147483657) n_86_3
theorem t_86_1 : e_Sn 86 1 (e_un n_86_1) := u_pushT (s_bipush (n := (9)) hq_86 (by decide +kernel) rfl ⟨by decide +kernel, by decide +kernel⟩ : e_Sn 86 1 (o_push (.inl 2147483657) 3)) t_86_3
noncomputable def n_86_0 : e_Y := u_ld f_okI f_l1 n_86_1
theorem t_86_0 : e_Sn 86 0 (e_un n_86_0) := u_ldIT f_l1_eq (s_iload (i := .iload_n 1) (len := 1) hq_86 (by decide +kernel) rfl (.inr ⟨1, rfl, rfl, rfl⟩) : e_Sn 86 0 (o_load e_okI 1 1)) t_86_1
noncomputable def e_tb_86 : e_X := (e_lf 0 (e_un n_86_0))
theorem e_tk_86 : e_Tb 86 e_tb_86 := (e_lfT t_86_0)
theorem hq_71 : (e_ml[71]?).map (·.2.1) = some prog_16_method_1_code := rfl
theorem ho_71 : (e_ml[71]?).map (·.1.cls) = some "PlateroomprinterModel$Item" := rfl
theorem hr_71 : (e_ml[71]?).map (·.2.2.2) = some none := rfl
noncomputable def n_71_19 : e_Y := u_tab (o_retv)
theorem t_71_19 : e_Sn 71 19 (e_un n_71_19) := u_tabT (s_vret hq_71 hr_71 (by decide +kernel) : e_Sn 71 19 (o_retv))
noncomputable def n_71_16 : e_Y := u_old (o_putf (e_f1 13 2) e_okR 19) n_71_19
theorem t_71_16 : e_Sn 71 16 (e_un n_71_16) := u_oldT (s_putf (ty0 := ey_13) (ok := e_okR) (C := er_13) (T := et_13) (N := 3) (ref := "PlateroomprinterModel$Item") (index := 16) (ci := 13) (k := 2) hq_71 ho_71 ⟨rfl, by decide, ei_13, (List.mem_of_getElem? (i := 2240) (by decide +kernel)), .inl rfl⟩ eo_13 en_13 e_oksR (.inr ⟨rfl, rfl, rfl⟩) (by decide +kernel) rfl : e_Sn 71 16 (o_putf (e_f1 13 2) e_okR 19)) t_71_19 (e_cg_putf (e_f1 13 2) e_okR)
noncomputable def n_71_15 : e_Y := u_ld f_okA f_l3 n_71_16
theorem t_71_15 : e_Sn 71 15 (e_un n_71_15) := u_ldAT f_l3_eq (s_aload (i := .aload_n 3) (len := 1) hq_71 (by decide +kernel) rfl (.inr ⟨3, rfl, rfl, rfl⟩) : e_Sn 71 15 (o_load e_okR 3 16)) t_71_16
noncomputable def n_71_14 : e_Y := u_ld f_okA f_l0 n_71_15
theorem t_71_14 : e_Sn 71 14 (e_un n_71_14) := u_ldAT f_l0_eq (s_aload (i := .aload_n 0) (len := 1) hq_71 (by decide +kernel) rfl (.inr ⟨0, rfl, rfl, rfl⟩) : e_Sn 71 14 (o_load e_okR 0 15)) t_71_15
noncomputable def n_71_11 : e_Y := u_old (o_putf (e_f1 13 1) e_okI 14) n_71_14
theorem t_71_11 : e_Sn 71 11 (e_un n_71_11) := u_oldT (s_putf (ty0 := ey_13) (ok := e_okI) (C := er_13) (T := et_13) (N := 3) (ref := "PlateroomprinterModel$Item") (index := 13) (ci := 13) (k := 1) hq_71 ho_71 ⟨rfl, by decide, ei_13, (List.mem_of_getElem? (i := 2238) (by decide +kernel)), .inl rfl⟩ eo_13 en_13 e_oksI (.inr ⟨rfl, rfl, rfl⟩) (by decide +kernel) rfl : e_Sn 71 11 (o_putf (e_f1 13 1) e_okI 14)) t_71_14 (e_cg_putf (e_f1 13 1) e_okI)
noncomputable def n_71_10 : e_Y := u_ld f_okI f_l2 n_71_11
theorem t_71_10 : e_Sn 71 10 (e_un n_71_10) := u_ldIT f_l2_eq (s_iload (i := .iload_n 2) (len := 1) hq_71 (by decide +kernel) rfl (.inr ⟨2, rfl, rfl, rfl⟩) : e_Sn 71 10 (o_load e_okI 2 11)) t_71_11
noncomputable def n_71_9 : e_Y := u_ld f_okA f_l0 n_71_10
theorem t_71_9 : e_Sn 71 9 (e_un n_71_9) := u_ldAT f_l0_eq (s_aload (i := .aload_n 0) (len := 1) hq_71 (by decide +kernel) rfl (.inr ⟨0, rfl, rfl, rfl⟩) : e_Sn 71 9 (o_load e_okR 0 10)) t_71_10
noncomputable def n_71_6 : e_Y := u_old (o_putf (e_f1 13 0) e_okI 9) n_71_9
theorem t_71_6 : e_Sn 71 6 (e_un n_71_6) := u_oldT (s_putf (ty0 := ey_13) (ok := e_okI) (C := er_13) (T := et_13) (N := 3) (ref := "PlateroomprinterModel$Item") (index := 7) (ci := 13) (k := 0) hq_71 ho_71 ⟨rfl, by decide, ei_13, (List.mem_of_getElem? (i := 2236) (by decide +kernel)), .inl rfl⟩ eo_13 en_13 e_oksI (.inr ⟨rfl, rfl, rfl⟩) (by decide +kernel) rfl : e_Sn 71 6 (o_putf (e_f1 13 0) e_okI 9)) t_71_9 (e_cg_putf (e_f1 13 0) e_okI)
noncomputable def n_71_5 : e_Y := u_ld f_okI f_l1 n_71_6
theorem t_71_5 : e_Sn 71 5 (e_un n_71_5) := u_ldIT f_l1_eq (s_iload (i := .iload_n 1) (len := 1) hq_71 (by decide +kernel) rfl (.inr ⟨1, rfl, rfl, rfl⟩) : e_Sn 71 5 (o_load e_okI 1 6)) t_71_6
noncomputable def n_71_4 : e_Y := u_ld f_okA f_l0 n_71_5
theorem t_71_4 : e_Sn 71 4 (e_un n_71_4) := u_ldAT f_l0_eq (s_aload (i := .aload_n 0) (len := 1) hq_71 (by decide +kernel) rfl (.inr ⟨0, rfl, rfl, rfl⟩) : e_Sn 71 4 (o_load e_okR 0 5)) t_71_5
noncomputable def n_71_1 : e_Y := u_tab (o_oinit 4)
theorem t_71_1 : e_Sn 71 1 (e_un n_71_1) := u_tabT (s_oinit (idx := 1) hq_71 ho_71 (List.mem_of_getElem? (i := 2235) (by decide +kernel)) (List.mem_of_getElem? (i := 190) (by decide +kernel)) (List.mem_of_getElem? (i := 191) (by decide +kernel)) (by decide +kernel) rfl : e_Sn 71 1 (o_oinit 4))
noncomputable def n_71_0 : e_Y := u_ld f_okA f_l0 n_71_1
theorem t_71_0 : e_Sn 71 0 (e_un n_71_0) := u_ldAT f_l0_eq (s_aload (i := .aload_n 0) (len := 1) hq_71 (by decide +kernel) rfl (.inr ⟨0, rfl, rfl, rfl⟩) : e_Sn 71 0 (o_load e_okR 0 1)) t_71_1
noncomputable def e_tb_71 : e_X := (e_br 4 (e_lf 0 (e_un n_71_0)) (e_lf 4 (e_un n_71_4)))
theorem e_tk_71 : e_Tb 71 e_tb_71 := (e_brT (e_lfT t_71_0) (e_lfT t_71_4))
theorem hq_89 : (e_ml[89]?).map (·.2.1) = some prog_20_method_16_code := rfl
theorem ho_89 : (e_ml[89]?).map (·.1.cls) = some "PlateroomprinterModel$Run" := rfl
theorem hr_89 : (e_ml[89]?).map (·.2.2.2) = some (some (.object "PlateroomprinterModel$Item")) := rfl
noncomputable def n_89_103 : e_Y := (u_at 10)
theorem t_89_103 : e_Sn 89 103 (e_un n_89_103) := u_gotoT (s_goto (off := (-93)) hq_89 (by decide +kernel) rfl : e_Sn 89 103 (o_goto 10)) u_atT
noncomputable def n_89_102 : e_Y := u_pop n_89_103
theorem t_89_102 : e_Sn 89 102 (e_un n_89_102) := u_popT (s_pop hq_89 (by decide +kernel) rfl : e_Sn 89 102 (o_pop 103)) t_89_103
noncomputable def n_89_99 : e_Y := u_callV 19 103 2 21 2 n_103_0 n_89_102
theorem t_89_99 : e_Sn 89 99 (e_un n_89_99) := u_callVT rfl (s_callV (ci := 19) (C := er_19) (T := et_19) (N := 3) (index := 34) hq_89 ho_89 hy_103 hp_103 hc_103 hi_103 hd_103 (List.mem_of_getElem? (i := 2149) (by decide +kernel)) hs_103 (List.mem_of_getElem? (i := 1822) (by decide +kernel)) rfl (by decide +kernel) rfl : e_Sn 89 99 (o_callV (e_s1 19 103 2) 2 102)) t_103_0 t_89_102
noncomputable def n_89_97 : e_Y := u_ld f_okA f_l4 n_89_99
theorem t_89_97 : e_Sn 89 97 (e_un n_89_97) := u_ldAT f_l4_eq (s_aload (i := .aload 4) (len := 2) hq_89 (by decide +kernel) rfl (.inl ⟨rfl, rfl⟩) : e_Sn 89 97 (o_load e_okR 4 99)) t_89_99
noncomputable def n_89_96 : e_Y := u_ld f_okA f_l2 n_89_97
theorem t_89_96 : e_Sn 89 96 (e_un n_89_96) := u_ldAT f_l2_eq (s_aload (i := .aload_n 2) (len := 1) hq_89 (by decide +kernel) rfl (.inr ⟨2, rfl, rfl, rfl⟩) : e_Sn 89 96 (o_load e_okR 2 97)) t_89_97
noncomputable def n_89_95 : e_Y := u_retA
theorem t_89_95 : e_Sn 89 95 (e_un n_89_95) := u_retAT (s_aret (.inl ⟨_, rfl⟩) hq_89 hr_89 (by decide +kernel) : e_Sn 89 95 (o_ret e_okR))
noncomputable def n_89_92 : e_Y := u_tab (o_callI 71 4 4 95)
theorem t_89_92 : e_Sn 89 92 (e_un n_89_92) := u_tabT (s_callI (index := 135) hq_89 ho_89 hy_71 hp_71 hc_71 hi_71 hd_71 (List.mem_of_getElem? (i := 2232) (by decide +kernel)) rfl rfl hs_71 (by decide +kernel) rfl : e_Sn 89 92 (o_callI 71 4 4 95))
noncomputable def n_89_91 : e_Y := u_ld f_okA f_l2 n_89_92
theorem t_89_91 : e_Sn 89 91 (e_un n_89_91) := u_ldAT f_l2_eq (s_aload (i := .aload_n 2) (len := 1) hq_89 (by decide +kernel) rfl (.inr ⟨2, rfl, rfl, rfl⟩) : e_Sn 89 91 (o_load e_okR 2 92)) t_89_92
noncomputable def n_89_90 : e_Y := u_push (.inl 2147483648) n_89_91
theorem t_89_90 : e_Sn 89 90 (e_un n_89_90) := u_pushT (s_iconst (n := (0)) hq_89 (by decide +kernel) rfl ⟨by decide +kernel, by decide +kernel⟩ : e_Sn 89 90 (o_push (.inl 2147483648) 91)) t_89_91
noncomputable def n_89_89 : e_Y := u_push (.inl 2147483650) n_89_90
theorem t_89_89 : e_Sn 89 89 (e_un n_89_89) := u_pushT (s_iconst (n := (2)) hq_89 (by decide +kernel) rfl ⟨by decide +kernel, by decide +kernel⟩ : e_Sn 89 89 (o_push (.inl 2147483650) 90)) t_89_90
noncomputable def n_89_88 : e_Y := u_old (o_dup 89) n_89_89
theorem t_89_88 : e_Sn 89 88 (e_un n_89_88) := u_oldT (s_dup hq_89 (by decide +kernel) rfl : e_Sn 89 88 (o_dup 89)) t_89_89 e_cg_dup
noncomputable def n_89_85 : e_Y := u_tab (o_new 13 3 ef_13 88)
theorem t_89_85 : e_Sn 89 85 (e_un n_89_85) := u_tabT (s_new (index := 133) (ci := 13) (N := 3) (C := er_13) (T := et_13) (ty0 := ey_13) (fv := eg_13) hq_89 ho_89 rfl ei_13 eo_13 (List.mem_of_getElem? (i := 2230) (by decide +kernel)) (List.mem_of_getElem? (i := 2231) (by decide +kernel)) (List.mem_of_getElem? (i := 173) (by decide +kernel)) eh_13 rfl (e_newrel ek_13) (by decide +kernel) rfl : e_Sn 89 85 (o_new 13 3 ef_13 88))
noncomputable def n_89_82 : e_Y := u_if y_ne0 (u_old2 (o_ifeq 85 96) 85 n_89_85 n_89_96) n_89_85 n_89_96
theorem t_89_82 : e_Sn 89 82 (e_un n_89_82) := u_ifeqT rfl (s_ifne (off := (14)) hq_89 (by decide +kernel) rfl rfl : e_Sn 89 82 (o_ifeq 85 96)) t_89_85 t_89_96
noncomputable def n_89_81 : e_Y := u_ld f_okI f_l3 n_89_82
theorem t_89_81 : e_Sn 89 81 (e_un n_89_81) := u_ldIT f_l3_eq (s_iload (i := .iload_n 3) (len := 1) hq_89 (by decide +kernel) rfl (.inr ⟨3, rfl, rfl, rfl⟩) : e_Sn 89 81 (o_load e_okI 3 82)) t_89_82
noncomputable def n_89_80 : e_Y := u_st f_okI f_s3 n_89_81
theorem t_89_80 : e_Sn 89 80 (e_un n_89_80) := u_stIT (fun _ _ _ => f_s3_eq) (s_istore (i := .istore_n 3) (len := 1) hq_89 (by decide +kernel) rfl (.inr ⟨3, rfl, rfl, rfl⟩) : e_Sn 89 80 (o_store e_okI 3 81)) t_89_81
noncomputable def n_89_79 : e_Y := u_bin a_iadd (u_old (o_iadd 80) n_89_80) n_89_80
theorem t_89_79 : e_Sn 89 79 (e_un n_89_79) := u_iaddT (s_iadd hq_89 (by decide +kernel) rfl : e_Sn 89 79 (o_iadd 80)) t_89_80
noncomputable def n_89_78 : e_Y := u_push (.inl 2147483648) n_89_79
theorem t_89_78 : e_Sn 89 78 (e_un n_89_78) := u_pushT (s_iconst (n := (0)) hq_89 (by decide +kernel) rfl ⟨by decide +kernel, by decide +kernel⟩ : e_Sn 89 78 (o_push (.inl 2147483648) 79)) t_89_79
noncomputable def n_89_75 : e_Y := n_89_79
theorem t_89_75 : e_Sn 89 75 (e_un n_89_75) := u_gotoT (s_goto (off := (4)) hq_89 (by decide +kernel) rfl : e_Sn 89 75 (o_goto 79)) t_89_79
noncomputable def n_89_74 : e_Y := u_push (.inl 2147483647) n_89_75
theorem t_89_74 : e_Sn 89 74 (e_un n_89_74) := u_pushT (s_iconst (n := (-1)) hq_89 (by decide +kernel) rfl ⟨by decide +kernel, by decide +kernel⟩ : e_Sn 89 74 (o_push (.inl 2147483647) 75)) t_89_75
noncomputable def n_89_71 : e_Y := u_jmp y_ne (u_old2 (o_ceq 74 78) 74 n_89_74 n_89_78) n_89_74 n_89_78
theorem t_89_71 : e_Sn 89 71 (e_un n_89_71) := u_ceqT rfl (s_cne (off := (7)) hq_89 (by decide +kernel) rfl rfl : e_Sn 89 71 (o_ceq 74 78)) t_89_74 t_89_78
noncomputable def n_89_70 : e_Y := u_push (.inl 2147483653) n_89_71
theorem t_89_70 : e_Sn 89 70 (e_un n_89_70) := u_pushT (s_iconst (n := (5)) hq_89 (by decide +kernel) rfl ⟨by decide +kernel, by decide +kernel⟩ : e_Sn 89 70 (o_push (.inl 2147483653) 71)) t_89_71
noncomputable def n_89_69 : e_Y := u_ald 0 (u_old (o_ald e_fcs 70) n_89_70) n_89_70
theorem t_89_69 : e_Sn 89 69 (e_un n_89_69) := u_aldT (s_iald hq_89 (by decide +kernel) rfl : e_Sn 89 69 (o_ald e_fcs 70)) t_89_70
noncomputable def n_89_68 : e_Y := u_push (.inl 2147483648) n_89_69
theorem t_89_68 : e_Sn 89 68 (e_un n_89_68) := u_pushT (s_iconst (n := (0)) hq_89 (by decide +kernel) rfl ⟨by decide +kernel, by decide +kernel⟩ : e_Sn 89 68 (o_push (.inl 2147483648) 69)) t_89_69
noncomputable def n_89_66 : e_Y := u_ld f_okA f_l4 n_89_68
theorem t_89_66 : e_Sn 89 66 (e_un n_89_66) := u_ldAT f_l4_eq (s_aload (i := .aload 4) (len := 2) hq_89 (by decide +kernel) rfl (.inl ⟨rfl, rfl⟩) : e_Sn 89 66 (o_load e_okR 4 68)) t_89_68
noncomputable def n_89_63 : e_Y := n_89_79
theorem t_89_63 : e_Sn 89 63 (e_un n_89_63) := u_gotoT (s_goto (off := (16)) hq_89 (by decide +kernel) rfl : e_Sn 89 63 (o_goto 79)) t_89_79
noncomputable def n_89_62 : e_Y := u_push (.inl 2147483649) n_89_63
theorem t_89_62 : e_Sn 89 62 (e_un n_89_62) := u_pushT (s_iconst (n := (1)) hq_89 (by decide +kernel) rfl ⟨by decide +kernel, by decide +kernel⟩ : e_Sn 89 62 (o_push (.inl 2147483649) 63)) t_89_63
noncomputable def n_89_59 : e_Y := u_jmp y_ne (u_old2 (o_ceq 62 66) 62 n_89_62 n_89_66) n_89_62 n_89_66
theorem t_89_59 : e_Sn 89 59 (e_un n_89_59) := u_ceqT rfl (s_cne (off := (7)) hq_89 (by decide +kernel) rfl rfl : e_Sn 89 59 (o_ceq 62 66)) t_89_62 t_89_66
noncomputable def n_89_58 : e_Y := u_push (.inl 2147483652) n_89_59
theorem t_89_58 : e_Sn 89 58 (e_un n_89_58) := u_pushT (s_iconst (n := (4)) hq_89 (by decide +kernel) rfl ⟨by decide +kernel, by decide +kernel⟩ : e_Sn 89 58 (o_push (.inl 2147483652) 59)) t_89_59
noncomputable def n_89_57 : e_Y := u_ald 0 (u_old (o_ald e_fcs 58) n_89_58) n_89_58
theorem t_89_57 : e_Sn 89 57 (e_un n_89_57) := u_aldT (s_iald hq_89 (by decide +kernel) rfl : e_Sn 89 57 (o_ald e_fcs 58)) t_89_58
noncomputable def n_89_56 : e_Y := u_push (.inl 2147483648) n_89_57
theorem t_89_56 : e_Sn 89 56 (e_un n_89_56) := u_pushT (s_iconst (n := (0)) hq_89 (by decide +kernel) rfl ⟨by decide +kernel, by decide +kernel⟩ : e_Sn 89 56 (o_push (.inl 2147483648) 57)) t_89_57
noncomputable def n_89_54 : e_Y := u_ld f_okA f_l4 n_89_56
theorem t_89_54 : e_Sn 89 54 (e_un n_89_54) := u_ldAT f_l4_eq (s_aload (i := .aload 4) (len := 2) hq_89 (by decide +kernel) rfl (.inl ⟨rfl, rfl⟩) : e_Sn 89 54 (o_load e_okR 4 56)) t_89_56
noncomputable def n_89_53 : e_Y := u_ld f_okI f_l3 n_89_54
theorem t_89_53 : e_Sn 89 53 (e_un n_89_53) := u_ldIT f_l3_eq (s_iload (i := .iload_n 3) (len := 1) hq_89 (by decide +kernel) rfl (.inr ⟨3, rfl, rfl, rfl⟩) : e_Sn 89 53 (o_load e_okI 3 54)) t_89_54
noncomputable def n_89_50 : e_Y := u_old (o_putf (e_f1 15 1) e_okI 53) n_89_53
theorem t_89_50 : e_Sn 89 50 (e_un n_89_50) := u_oldT (s_putf (ty0 := ey_15) (ok := e_okI) (C := er_15) (T := et_15) (N := 8) (ref := "PlateroomprinterModel$Row") (index := 50) (ci := 15) (k := 1) hq_89 ho_89 ⟨rfl, by decide, ei_15, (List.mem_of_getElem? (i := 2125) (by decide +kernel)), .inl rfl⟩ eo_15 en_15 e_oksI (.inl rfl) (by decide +kernel) rfl : e_Sn 89 50 (o_putf (e_f1 15 1) e_okI 53)) t_89_53 (e_cg_putf (e_f1 15 1) e_okI)
noncomputable def n_89_49 : e_Y := u_bin a_iadd (u_old (o_iadd 50) n_89_50) n_89_50
theorem t_89_49 : e_Sn 89 49 (e_un n_89_49) := u_iaddT (s_iadd hq_89 (by decide +kernel) rfl : e_Sn 89 49 (o_iadd 50)) t_89_50
noncomputable def n_89_48 : e_Y := u_push (.inl 2147483649) n_89_49
theorem t_89_48 : e_Sn 89 48 (e_un n_89_48) := u_pushT (s_iconst (n := (1)) hq_89 (by decide +kernel) rfl ⟨by decide +kernel, by decide +kernel⟩ : e_Sn 89 48 (o_push (.inl 2147483649) 49)) t_89_49
noncomputable def n_89_45 : e_Y := u_getf 15 1 (u_old (o_getf (e_f1 15 1) 48) n_89_48) n_89_48
theorem t_89_45 : e_Sn 89 45 (e_un n_89_45) := u_getfT (s_getf (C := er_15) (T := et_15) (N := 8) (ref := "PlateroomprinterModel$Row") (index := 50) (ci := 15) (k := 1) hq_89 ho_89 ⟨rfl, by decide, ei_15, (List.mem_of_getElem? (i := 2125) (by decide +kernel)), .inl rfl⟩ (by decide +kernel) rfl : e_Sn 89 45 (o_getf (e_f1 15 1) 48)) t_89_48
noncomputable def n_89_44 : e_Y := u_old (o_dup 45) n_89_45
theorem t_89_44 : e_Sn 89 44 (e_un n_89_44) := u_oldT (s_dup hq_89 (by decide +kernel) rfl : e_Sn 89 44 (o_dup 45)) t_89_45 e_cg_dup
noncomputable def n_89_43 : e_Y := u_ld f_okA f_l1 n_89_44
theorem t_89_43 : e_Sn 89 43 (e_un n_89_43) := u_ldAT f_l1_eq (s_aload (i := .aload_n 1) (len := 1) hq_89 (by decide +kernel) rfl (.inr ⟨1, rfl, rfl, rfl⟩) : e_Sn 89 43 (o_load e_okR 1 44)) t_89_44
noncomputable def n_89_41 : e_Y := u_st f_okA f_s4 n_89_43
theorem t_89_41 : e_Sn 89 41 (e_un n_89_41) := u_stAT (fun _ _ _ => f_s4_eq) (s_astore (i := .astore 4) (len := 2) hq_89 (by decide +kernel) rfl (.inl ⟨rfl, rfl⟩) : e_Sn 89 41 (o_store e_okR 4 43)) t_89_43
noncomputable def n_89_38 : e_Y := u_old (o_cast 100 41) n_89_41
theorem t_89_38 : e_Sn 89 38 (e_un n_89_38) := u_oldT (s_cast (index := 63) hq_89 ho_89 (List.mem_of_getElem? (i := 2254) (by decide +kernel)) (.inr ⟨rfl, rfl⟩) (by decide +kernel) rfl : e_Sn 89 38 (o_cast 100 41)) t_89_41 (e_cg_cast 100)
noncomputable def n_89_35 : e_Y := u_callV 19 107 2 21 2 n_107_0 n_89_38
theorem t_89_35 : e_Sn 89 35 (e_un n_89_35) := u_callVT rfl (s_callV (ci := 19) (C := er_19) (T := et_19) (N := 3) (index := 42) hq_89 ho_89 hy_107 hp_107 hc_107 hi_107 hd_107 (List.mem_of_getElem? (i := 2182) (by decide +kernel)) hs_107 (List.mem_of_getElem? (i := 2051) (by decide +kernel)) rfl (by decide +kernel) rfl : e_Sn 89 35 (o_callV (e_s1 19 107 2) 2 38)) t_107_0 t_89_38
noncomputable def n_89_32 : e_Y := u_getf 15 1 (u_old (o_getf (e_f1 15 1) 35) n_89_35) n_89_35
theorem t_89_32 : e_Sn 89 32 (e_un n_89_32) := u_getfT (s_getf (C := er_15) (T := et_15) (N := 8) (ref := "PlateroomprinterModel$Row") (index := 50) (ci := 15) (k := 1) hq_89 ho_89 ⟨rfl, by decide, ei_15, (List.mem_of_getElem? (i := 2125) (by decide +kernel)), .inl rfl⟩ (by decide +kernel) rfl : e_Sn 89 32 (o_getf (e_f1 15 1) 35)) t_89_35
noncomputable def n_89_31 : e_Y := u_ld f_okA f_l1 n_89_32
theorem t_89_31 : e_Sn 89 31 (e_un n_89_31) := u_ldAT f_l1_eq (s_aload (i := .aload_n 1) (len := 1) hq_89 (by decide +kernel) rfl (.inr ⟨1, rfl, rfl, rfl⟩) : e_Sn 89 31 (o_load e_okR 1 32)) t_89_32
noncomputable def n_89_28 : e_Y := u_getf 15 0 (u_old (o_getf (e_f1 15 0) 31) n_89_31) n_89_31
theorem t_89_28 : e_Sn 89 28 (e_un n_89_28) := u_getfT (s_getf (C := er_15) (T := et_15) (N := 8) (ref := "PlateroomprinterModel$Row") (index := 60) (ci := 15) (k := 0) hq_89 ho_89 ⟨rfl, by decide, ei_15, (List.mem_of_getElem? (i := 2123) (by decide +kernel)), .inl rfl⟩ (by decide +kernel) rfl : e_Sn 89 28 (o_getf (e_f1 15 0) 31)) t_89_31
noncomputable def n_89_27 : e_Y := u_ld f_okA f_l1 n_89_28
theorem t_89_27 : e_Sn 89 27 (e_un n_89_27) := u_ldAT f_l1_eq (s_aload (i := .aload_n 1) (len := 1) hq_89 (by decide +kernel) rfl (.inr ⟨1, rfl, rfl, rfl⟩) : e_Sn 89 27 (o_load e_okR 1 28)) t_89_28
noncomputable def n_89_24 : e_Y := u_callS 66 2 21 2 n_66_0 n_89_27
theorem t_89_24 : e_Sn 89 24 (e_un n_89_24) := u_callST rfl (s_callSN (host := "PlateroomprinterModel") (index := 73) hq_89 ho_89 hy_66 hp_66 hc_66 hi_66 hd_66 (List.mem_of_getElem? (i := 2203) (by decide +kernel)) hs_66 (by decide +kernel) rfl : e_Sn 89 24 (o_callS 66 2 2 27)) t_66_0 t_89_27
noncomputable def n_89_22 : e_Y := u_push (.inl 2147483654) n_89_24
theorem t_89_22 : e_Sn 89 22 (e_un n_89_22) := u_pushT (s_bipush (n := (6)) hq_89 (by decide +kernel) rfl ⟨by decide +kernel, by decide +kernel⟩ : e_Sn 89 22 (o_push (.inl 2147483654) 24)) t_89_24
noncomputable def n_89_18 : e_Y := n_89_22
theorem t_89_18 : e_Sn 89 18 (e_un n_89_18) := u_gotoT (s_goto (off := (4)) hq_89 (by decide +kernel) rfl : e_Sn 89 18 (o_goto 22)) t_89_22
noncomputable def n_89_17 : e_Y := u_push (.inl 2147483649) n_89_18
theorem t_89_17 : e_Sn 89 17 (e_un n_89_17) := u_pushT (s_iconst (n := (1)) hq_89 (by decide +kernel) rfl ⟨by decide +kernel, by decide +kernel⟩ : e_Sn 89 17 (o_push (.inl 2147483649) 18)) t_89_18
noncomputable def n_89_14 : e_Y := u_if y_ne0 (u_old2 (o_ifeq 17 21) 17 n_89_17 (u_at 21)) n_89_17 (u_at 21)
theorem t_89_14 : e_Sn 89 14 (e_un n_89_14) := u_ifeqT rfl (s_ifne (off := (7)) hq_89 (by decide +kernel) rfl rfl : e_Sn 89 14 (o_ifeq 17 21)) t_89_17 u_atT
noncomputable def n_89_11 : e_Y := u_callV 15 75 1 20 1 n_75_0 n_89_14
theorem t_89_11 : e_Sn 89 11 (e_un n_89_11) := u_callVT rfl (s_callV (ci := 15) (C := er_15) (T := et_15) (N := 8) (index := 84) hq_89 ho_89 hy_75 hp_75 hc_75 hi_75 hd_75 (List.mem_of_getElem? (i := 2183) (by decide +kernel)) hs_75 (List.mem_of_getElem? (i := 2185) (by decide +kernel)) rfl (by decide +kernel) rfl : e_Sn 89 11 (o_callV (e_s1 15 75 1) 1 14)) t_75_0 t_89_14
noncomputable def n_89_10 : e_Y := u_ld f_okA f_l1 n_89_11
theorem t_89_10 : e_Sn 89 10 (e_un n_89_10) := u_ldAT f_l1_eq (s_aload (i := .aload_n 1) (len := 1) hq_89 (by decide +kernel) rfl (.inr ⟨1, rfl, rfl, rfl⟩) : e_Sn 89 10 (o_load e_okR 1 11)) t_89_11
noncomputable def n_89_9 : e_Y := u_st f_okI f_s3 n_89_10
theorem t_89_9 : e_Sn 89 9 (e_un n_89_9) := u_stIT (fun _ _ _ => f_s3_eq) (s_istore (i := .istore_n 3) (len := 1) hq_89 (by decide +kernel) rfl (.inr ⟨3, rfl, rfl, rfl⟩) : e_Sn 89 9 (o_store e_okI 3 10)) t_89_10
noncomputable def n_89_8 : e_Y := u_push (.inl 2147483649) n_89_9
theorem t_89_8 : e_Sn 89 8 (e_un n_89_8) := u_pushT (s_iconst (n := (1)) hq_89 (by decide +kernel) rfl ⟨by decide +kernel, by decide +kernel⟩ : e_Sn 89 8 (o_push (.inl 2147483649) 9)) t_89_9
noncomputable def n_89_7 : e_Y := u_st f_okA f_s2 n_89_8
theorem t_89_7 : e_Sn 89 7 (e_un n_89_7) := u_stAT (fun _ _ _ => f_s2_eq) (s_astore (i := .astore_n 2) (len := 1) hq_89 (by decide +kernel) rfl (.inr ⟨2, rfl, rfl, rfl⟩) : e_Sn 89 7 (o_store e_okR 2 8)) t_89_8
noncomputable def n_89_4 : e_Y := u_tab (o_callI 102 1 1 7)
theorem t_89_4 : e_Sn 89 4 (e_un n_89_4) := u_tabT (s_callI (index := 11) hq_89 ho_89 hy_102 hp_102 hc_102 hi_102 hd_102 (List.mem_of_getElem? (i := 2115) (by decide +kernel)) rfl rfl hs_102 (by decide +kernel) rfl : e_Sn 89 4 (o_callI 102 1 1 7))
noncomputable def n_89_3 : e_Y := u_old (o_dup 4) n_89_4
theorem t_89_3 : e_Sn 89 3 (e_un n_89_3) := u_oldT (s_dup hq_89 (by decide +kernel) rfl : e_Sn 89 3 (o_dup 4)) t_89_4 e_cg_dup
noncomputable def n_89_0 : e_Y := u_tab (o_new 19 3 ef_19 3)
theorem t_89_0 : e_Sn 89 0 (e_un n_89_0) := u_tabT (s_new (index := 9) (ci := 19) (N := 3) (C := er_19) (T := et_19) (ty0 := ey_19) (fv := eg_19) hq_89 ho_89 rfl ei_19 eo_19 (List.mem_of_getElem? (i := 2114) (by decide +kernel)) (List.mem_of_getElem? (i := 1751) (by decide +kernel)) (List.mem_of_getElem? (i := 155) (by decide +kernel)) eh_19 rfl (e_newrel ek_19) (by decide +kernel) rfl : e_Sn 89 0 (o_new 19 3 ef_19 3))
noncomputable def e_tb_89 : e_X := (e_br 10 (e_br 3 (e_lf 0 (e_un n_89_0)) (e_br 7 (e_lf 3 (e_un n_89_3)) (e_lf 7 (e_un n_89_7)))) (e_br 88 (e_lf 10 (e_un n_89_10)) (e_br 95 (e_lf 88 (e_un n_89_88)) (e_lf 95 (e_un n_89_95)))))
theorem e_tk_89 : e_Tb 89 e_tb_89 := (e_brT (e_brT (e_lfT t_89_0) (e_brT (e_lfT t_89_3) (e_lfT t_89_7))) (e_brT (e_lfT t_89_10) (e_brT (e_lfT t_89_88) (e_lfT t_89_95))))
theorem hq_91 : (e_ml[91]?).map (·.2.1) = some prog_20_method_8_code := rfl
theorem ho_91 : (e_ml[91]?).map (·.1.cls) = some "PlateroomprinterModel$Run" := rfl
theorem hr_91 : (e_ml[91]?).map (·.2.2.2) = some none := rfl
noncomputable def n_91_37 : e_Y := u_tab (o_retv)
theorem t_91_37 : e_Sn 91 37 (e_un n_91_37) := u_tabT (s_vret hq_91 hr_91 (by decide +kernel) : e_Sn 91 37 (o_retv))
noncomputable def n_91_36 : e_Y := u_pop n_91_37
theorem t_91_36 : e_Sn 91 36 (e_un n_91_36) := u_popT (s_pop hq_91 (by decide +kernel) rfl : e_Sn 91 36 (o_pop 37)) t_91_37
noncomputable def n_91_33 : e_Y := u_callV 19 103 2 21 2 n_103_0 n_91_36
theorem t_91_33 : e_Sn 91 33 (e_un n_91_33) := u_callVT rfl (s_callV (ci := 19) (C := er_19) (T := et_19) (N := 3) (index := 34) hq_91 ho_91 hy_103 hp_103 hc_103 hi_103 hd_103 (List.mem_of_getElem? (i := 2149) (by decide +kernel)) hs_103 (List.mem_of_getElem? (i := 1822) (by decide +kernel)) rfl (by decide +kernel) rfl : e_Sn 91 33 (o_callV (e_s1 19 103 2) 2 36)) t_103_0 t_91_36
noncomputable def n_91_32 : e_Y := u_ld f_okA f_l1 n_91_33
theorem t_91_32 : e_Sn 91 32 (e_un n_91_32) := u_ldAT f_l1_eq (s_aload (i := .aload_n 1) (len := 1) hq_91 (by decide +kernel) rfl (.inr ⟨1, rfl, rfl, rfl⟩) : e_Sn 91 32 (o_load e_okR 1 33)) t_91_33
noncomputable def n_91_29 : e_Y := u_getf 14 0 (u_old (o_getf (e_f1 14 0) 32) n_91_32) n_91_32
theorem t_91_29 : e_Sn 91 29 (e_un n_91_29) := u_getfT (s_getf (C := er_14) (T := et_14) (N := 13) (ref := "PlateroomprinterModel$Machine") (index := 122) (ci := 14) (k := 0) hq_91 ho_91 ⟨rfl, by decide, ei_14, (List.mem_of_getElem? (i := 1891) (by decide +kernel)), .inl rfl⟩ (by decide +kernel) rfl : e_Sn 91 29 (o_getf (e_f1 14 0) 32)) t_91_32
noncomputable def n_91_26 : e_Y := u_getf 16 0 (u_old (o_getf (e_f1 16 0) 29) n_91_29) n_91_29
theorem t_91_26 : e_Sn 91 26 (e_un n_91_26) := u_getfT (s_getf (C := er_16) (T := et_16) (N := 5) (ref := "PlateroomprinterModel$Run") (index := 25) (ci := 16) (k := 0) hq_91 ho_91 ⟨rfl, by decide, ei_16, (List.mem_of_getElem? (i := 2150) (by decide +kernel)), .inl rfl⟩ (by decide +kernel) rfl : e_Sn 91 26 (o_getf (e_f1 16 0) 29)) t_91_29
noncomputable def n_91_25 : e_Y := u_ld f_okA f_l0 n_91_26
theorem t_91_25 : e_Sn 91 25 (e_un n_91_25) := u_ldAT f_l0_eq (s_aload (i := .aload_n 0) (len := 1) hq_91 (by decide +kernel) rfl (.inr ⟨0, rfl, rfl, rfl⟩) : e_Sn 91 25 (o_load e_okR 0 26)) t_91_26
noncomputable def n_91_22 : e_Y := u_callS 66 2 21 2 n_66_0 n_91_25
theorem t_91_22 : e_Sn 91 22 (e_un n_91_22) := u_callST rfl (s_callSN (host := "PlateroomprinterModel") (index := 73) hq_91 ho_91 hy_66 hp_66 hc_66 hi_66 hd_66 (List.mem_of_getElem? (i := 2203) (by decide +kernel)) hs_66 (by decide +kernel) rfl : e_Sn 91 22 (o_callS 66 2 2 25)) t_66_0 t_91_25
noncomputable def n_91_20 : e_Y := u_push (.inl 2147483656) n_91_22
theorem t_91_20 : e_Sn 91 20 (e_un n_91_20) := u_pushT (s_bipush (n := (8)) hq_91 (by decide +kernel) rfl ⟨by decide +kernel, by decide +kernel⟩ : e_Sn 91 20 (o_push (.inl 2147483656) 22)) t_91_22
noncomputable def n_91_16 : e_Y := n_91_20
theorem t_91_16 : e_Sn 91 16 (e_un n_91_16) := u_gotoT (s_goto (off := (4)) hq_91 (by decide +kernel) rfl : e_Sn 91 16 (o_goto 20)) t_91_20
noncomputable def n_91_15 : e_Y := u_push (.inl 2147483649) n_91_16
theorem t_91_15 : e_Sn 91 15 (e_un n_91_15) := u_pushT (s_iconst (n := (1)) hq_91 (by decide +kernel) rfl ⟨by decide +kernel, by decide +kernel⟩ : e_Sn 91 15 (o_push (.inl 2147483649) 16)) t_91_16
noncomputable def n_91_12 : e_Y := u_jmp y_ge (u_old2 (o_clt 15 19) 15 n_91_15 (u_at 19)) n_91_15 (u_at 19)
theorem t_91_12 : e_Sn 91 12 (e_un n_91_12) := u_cltT rfl (s_cge (off := (7)) hq_91 (by decide +kernel) rfl rfl : e_Sn 91 12 (o_clt 15 19)) t_91_15 u_atT
noncomputable def n_91_10 : e_Y := u_push (.inl 2147483688) n_91_12
theorem t_91_10 : e_Sn 91 10 (e_un n_91_10) := u_pushT (s_bipush (n := (40)) hq_91 (by decide +kernel) rfl ⟨by decide +kernel, by decide +kernel⟩ : e_Sn 91 10 (o_push (.inl 2147483688) 12)) t_91_12
noncomputable def n_91_7 : e_Y := u_callV 19 113 1 20 1 n_113_0 n_91_10
theorem t_91_7 : e_Sn 91 7 (e_un n_91_7) := u_callVT rfl (s_callV (ci := 19) (C := er_19) (T := et_19) (N := 3) (index := 38) hq_91 ho_91 hy_113 hp_113 hc_113 hi_113 hd_113 (List.mem_of_getElem? (i := 2181) (by decide +kernel)) hs_113 (List.mem_of_getElem? (i := 2002) (by decide +kernel)) rfl (by decide +kernel) rfl : e_Sn 91 7 (o_callV (e_s1 19 113 1) 1 10)) t_113_0 t_91_10
noncomputable def n_91_4 : e_Y := u_getf 14 0 (u_old (o_getf (e_f1 14 0) 7) n_91_7) n_91_7
theorem t_91_4 : e_Sn 91 4 (e_un n_91_4) := u_getfT (s_getf (C := er_14) (T := et_14) (N := 13) (ref := "PlateroomprinterModel$Machine") (index := 122) (ci := 14) (k := 0) hq_91 ho_91 ⟨rfl, by decide, ei_14, (List.mem_of_getElem? (i := 1891) (by decide +kernel)), .inl rfl⟩ (by decide +kernel) rfl : e_Sn 91 4 (o_getf (e_f1 14 0) 7)) t_91_7
noncomputable def n_91_1 : e_Y := u_getf 16 0 (u_old (o_getf (e_f1 16 0) 4) n_91_4) n_91_4
theorem t_91_1 : e_Sn 91 1 (e_un n_91_1) := u_getfT (s_getf (C := er_16) (T := et_16) (N := 5) (ref := "PlateroomprinterModel$Run") (index := 25) (ci := 16) (k := 0) hq_91 ho_91 ⟨rfl, by decide, ei_16, (List.mem_of_getElem? (i := 2150) (by decide +kernel)), .inl rfl⟩ (by decide +kernel) rfl : e_Sn 91 1 (o_getf (e_f1 16 0) 4)) t_91_4
noncomputable def n_91_0 : e_Y := u_ld f_okA f_l0 n_91_1
theorem t_91_0 : e_Sn 91 0 (e_un n_91_0) := u_ldAT f_l0_eq (s_aload (i := .aload_n 0) (len := 1) hq_91 (by decide +kernel) rfl (.inr ⟨0, rfl, rfl, rfl⟩) : e_Sn 91 0 (o_load e_okR 0 1)) t_91_1
noncomputable def e_tb_91 : e_X := (e_lf 0 (e_un n_91_0))
theorem e_tk_91 : e_Tb 91 e_tb_91 := (e_lfT t_91_0)
theorem hq_90 : (e_ml[90]?).map (·.2.1) = some prog_20_method_9_code := rfl
theorem ho_90 : (e_ml[90]?).map (·.1.cls) = some "PlateroomprinterModel$Run" := rfl
theorem hr_90 : (e_ml[90]?).map (·.2.2.2) = some none := rfl
noncomputable def n_90_29 : e_Y := u_tab (o_retv)
theorem t_90_29 : e_Sn 90 29 (e_un n_90_29) := u_tabT (s_vret hq_90 hr_90 (by decide +kernel) : e_Sn 90 29 (o_retv))
noncomputable def n_90_26 : e_Y := u_callV 16 91 2 21 2 n_91_0 n_90_29
theorem t_90_26 : e_Sn 90 26 (e_un n_90_26) := u_callVT rfl (s_callV (ci := 16) (C := er_16) (T := et_16) (N := 5) (index := 138) hq_90 ho_90 hy_91 hp_91 hc_91 hi_91 hd_91 (List.mem_of_getElem? (i := 2249) (by decide +kernel)) hs_91 (List.mem_of_getElem? (i := 81) (by decide +kernel)) rfl (by decide +kernel) rfl : e_Sn 90 26 (o_callV (e_s1 16 91 2) 2 29)) t_91_0 t_90_29
noncomputable def n_90_23 : e_Y := u_tab (o_callI 71 4 4 26)
theorem t_90_23 : e_Sn 90 23 (e_un n_90_23) := u_tabT (s_callI (index := 135) hq_90 ho_90 hy_71 hp_71 hc_71 hi_71 hd_71 (List.mem_of_getElem? (i := 2232) (by decide +kernel)) rfl rfl hs_71 (by decide +kernel) rfl : e_Sn 90 23 (o_callI 71 4 4 26))
noncomputable def n_90_22 : e_Y := u_push e_N n_90_23
theorem t_90_22 : e_Sn 90 22 (e_un n_90_22) := u_pushT (s_null hq_90 (by decide +kernel) rfl : e_Sn 90 22 (o_push e_N 23)) t_90_23
noncomputable def n_90_21 : e_Y := u_old (o_l2i 22) n_90_22
theorem t_90_21 : e_Sn 90 21 (e_un n_90_21) := u_oldT (s_l2i hq_90 (by decide +kernel) rfl : e_Sn 90 21 (o_l2i 22)) t_90_22 e_cg_l2i
noncomputable def n_90_20 : e_Y := u_old (o_load e_okL 1 21) n_90_21
theorem t_90_20 : e_Sn 90 20 (e_un n_90_20) := u_oldT (s_lload (i := .lload_n 1) (len := 1) hq_90 (by decide +kernel) rfl (.inr ⟨1, rfl, rfl, rfl⟩) : e_Sn 90 20 (o_load e_okL 1 21)) t_90_21 e_congr_load
noncomputable def n_90_19 : e_Y := u_push (.inl 2147483648) n_90_20
theorem t_90_19 : e_Sn 90 19 (e_un n_90_19) := u_pushT (s_iconst (n := (0)) hq_90 (by decide +kernel) rfl ⟨by decide +kernel, by decide +kernel⟩ : e_Sn 90 19 (o_push (.inl 2147483648) 20)) t_90_20
noncomputable def n_90_18 : e_Y := u_old (o_dup 19) n_90_19
theorem t_90_18 : e_Sn 90 18 (e_un n_90_18) := u_oldT (s_dup hq_90 (by decide +kernel) rfl : e_Sn 90 18 (o_dup 19)) t_90_19 e_cg_dup
noncomputable def n_90_15 : e_Y := u_tab (o_new 13 3 ef_13 18)
theorem t_90_15 : e_Sn 90 15 (e_un n_90_15) := u_tabT (s_new (index := 133) (ci := 13) (N := 3) (C := er_13) (T := et_13) (ty0 := ey_13) (fv := eg_13) hq_90 ho_90 rfl ei_13 eo_13 (List.mem_of_getElem? (i := 2230) (by decide +kernel)) (List.mem_of_getElem? (i := 2231) (by decide +kernel)) (List.mem_of_getElem? (i := 173) (by decide +kernel)) eh_13 rfl (e_newrel ek_13) (by decide +kernel) rfl : e_Sn 90 15 (o_new 13 3 ef_13 18))
noncomputable def n_90_14 : e_Y := u_ld f_okA f_l0 n_90_15
theorem t_90_14 : e_Sn 90 14 (e_un n_90_14) := u_ldAT f_l0_eq (s_aload (i := .aload_n 0) (len := 1) hq_90 (by decide +kernel) rfl (.inr ⟨0, rfl, rfl, rfl⟩) : e_Sn 90 14 (o_load e_okR 0 15)) t_90_15
noncomputable def n_90_11 : e_Y := u_callS 66 2 21 2 n_66_0 n_90_14
theorem t_90_11 : e_Sn 90 11 (e_un n_90_11) := u_callST rfl (s_callSN (host := "PlateroomprinterModel") (index := 73) hq_90 ho_90 hy_66 hp_66 hc_66 hi_66 hd_66 (List.mem_of_getElem? (i := 2203) (by decide +kernel)) hs_66 (by decide +kernel) rfl : e_Sn 90 11 (o_callS 66 2 2 14)) t_66_0 t_90_14
noncomputable def n_90_10 : e_Y := u_push (.inl 2147483651) n_90_11
theorem t_90_10 : e_Sn 90 10 (e_un n_90_10) := u_pushT (s_iconst (n := (3)) hq_90 (by decide +kernel) rfl ⟨by decide +kernel, by decide +kernel⟩ : e_Sn 90 10 (o_push (.inl 2147483651) 11)) t_90_11
noncomputable def n_90_7 : e_Y := u_callS 64 6 25 3 n_64_0 n_90_10
theorem t_90_7 : e_Sn 90 7 (e_un n_90_7) := u_callST rfl (s_callSN (host := "PlateroomprinterModel") (index := 129) hq_90 ho_90 hy_64 hp_64 hc_64 hi_64 hd_64 (List.mem_of_getElem? (i := 2202) (by decide +kernel)) hs_64 (by decide +kernel) rfl : e_Sn 90 7 (o_callS 64 6 3 10)) t_64_0 t_90_10
noncomputable def n_90_4 : e_Y := u_push (e_L 9223372036854875807) n_90_7
theorem t_90_4 : e_Sn 90 4 (e_un n_90_4) := u_pushT (s_ldc2 (index := 127) (v := (99999)) hq_90 ho_90 (List.mem_of_getElem? (i := 2201) (by decide +kernel)) (by decide +kernel) rfl ⟨by decide +kernel, by decide +kernel⟩ : e_Sn 90 4 (o_push (e_L 9223372036854875807) 7)) t_90_7
noncomputable def n_90_1 : e_Y := u_push (e_L 9223372036854675809) n_90_4
theorem t_90_1 : e_Sn 90 1 (e_un n_90_1) := u_pushT (s_ldc2 (index := 125) (v := (-99999)) hq_90 ho_90 (List.mem_of_getElem? (i := 2200) (by decide +kernel)) (by decide +kernel) rfl ⟨by decide +kernel, by decide +kernel⟩ : e_Sn 90 1 (o_push (e_L 9223372036854675809) 4)) t_90_4
noncomputable def n_90_0 : e_Y := u_old (o_load e_okL 1 1) n_90_1
theorem t_90_0 : e_Sn 90 0 (e_un n_90_0) := u_oldT (s_lload (i := .lload_n 1) (len := 1) hq_90 (by decide +kernel) rfl (.inr ⟨1, rfl, rfl, rfl⟩) : e_Sn 90 0 (o_load e_okL 1 1)) t_90_1 e_congr_load
noncomputable def e_tb_90 : e_X := (e_br 18 (e_lf 0 (e_un n_90_0)) (e_br 26 (e_lf 18 (e_un n_90_18)) (e_lf 26 (e_un n_90_26))))
theorem e_tk_90 : e_Tb 90 e_tb_90 := (e_brT (e_lfT t_90_0) (e_brT (e_lfT t_90_18) (e_lfT t_90_26)))
theorem hq_94 : (e_ml[94]?).map (·.2.1) = some prog_20_method_14_code := rfl
theorem ho_94 : (e_ml[94]?).map (·.1.cls) = some "PlateroomprinterModel$Run" := rfl
theorem hr_94 : (e_ml[94]?).map (·.2.2.2) = some none := rfl
noncomputable def n_94_123 : e_Y := u_tab (o_retv)
theorem t_94_123 : e_Sn 94 123 (e_un n_94_123) := u_tabT (s_vret hq_94 hr_94 (by decide +kernel) : e_Sn 94 123 (o_retv))
noncomputable def n_94_110 : e_Y := n_94_123
theorem t_94_110 : e_Sn 94 110 (e_un n_94_110) := u_gotoT (s_goto (off := (13)) hq_94 (by decide +kernel) rfl : e_Sn 94 110 (o_goto 123)) t_94_123
noncomputable def n_94_107 : e_Y := u_callV 16 91 2 21 2 n_91_0 n_94_110
theorem t_94_107 : e_Sn 94 107 (e_un n_94_107) := u_callVT rfl (s_callV (ci := 16) (C := er_16) (T := et_16) (N := 5) (index := 138) hq_94 ho_94 hy_91 hp_91 hc_91 hi_91 hd_91 (List.mem_of_getElem? (i := 2249) (by decide +kernel)) hs_91 (List.mem_of_getElem? (i := 81) (by decide +kernel)) rfl (by decide +kernel) rfl : e_Sn 94 107 (o_callV (e_s1 16 91 2) 2 110)) t_91_0 t_94_110
noncomputable def n_94_104 : e_Y := u_callV 16 89 5 24 2 n_89_0 n_94_107
theorem t_94_104 : e_Sn 94 104 (e_un n_94_104) := u_callVT rfl (s_callV (ci := 16) (C := er_16) (T := et_16) (N := 5) (index := 169) hq_94 ho_94 hy_89 hp_89 hc_89 hi_89 hd_89 (List.mem_of_getElem? (i := 2885) (by decide +kernel)) hs_89 (List.mem_of_getElem? (i := 120) (by decide +kernel)) rfl (by decide +kernel) rfl : e_Sn 94 104 (o_callV (e_s1 16 89 5) 2 107)) t_89_0 t_94_107
noncomputable def n_94_103 : e_Y := u_ld f_okA f_l1 n_94_104
theorem t_94_103 : e_Sn 94 103 (e_un n_94_103) := u_ldAT f_l1_eq (s_aload (i := .aload_n 1) (len := 1) hq_94 (by decide +kernel) rfl (.inr ⟨1, rfl, rfl, rfl⟩) : e_Sn 94 103 (o_load e_okR 1 104)) t_94_104
noncomputable def n_94_102 : e_Y := u_ld f_okA f_l0 n_94_103
theorem t_94_102 : e_Sn 94 102 (e_un n_94_102) := u_ldAT f_l0_eq (s_aload (i := .aload_n 0) (len := 1) hq_94 (by decide +kernel) rfl (.inr ⟨0, rfl, rfl, rfl⟩) : e_Sn 94 102 (o_load e_okR 0 103)) t_94_103
noncomputable def n_94_101 : e_Y := u_ld f_okA f_l0 n_94_102
theorem t_94_101 : e_Sn 94 101 (e_un n_94_101) := u_ldAT f_l0_eq (s_aload (i := .aload_n 0) (len := 1) hq_94 (by decide +kernel) rfl (.inr ⟨0, rfl, rfl, rfl⟩) : e_Sn 94 101 (o_load e_okR 0 102)) t_94_102
noncomputable def n_94_69 : e_Y := n_94_123
theorem t_94_69 : e_Sn 94 69 (e_un n_94_69) := u_gotoT (s_goto (off := (54)) hq_94 (by decide +kernel) rfl : e_Sn 94 69 (o_goto 123)) t_94_123
noncomputable def n_94_68 : e_Y := u_old (o_ast 0 e_okI 69) n_94_69
theorem t_94_68 : e_Sn 94 68 (e_un n_94_68) := u_oldT (s_iast hq_94 (by decide +kernel) rfl : e_Sn 94 68 (o_ast 0 e_okI 69)) t_94_69 (e_cg_ast 0 e_okI)
noncomputable def n_94_67 : e_Y := u_bin a_iadd (u_old (o_iadd 68) n_94_68) n_94_68
theorem t_94_67 : e_Sn 94 67 (e_un n_94_67) := u_iaddT (s_iadd hq_94 (by decide +kernel) rfl : e_Sn 94 67 (o_iadd 68)) t_94_68
noncomputable def n_94_66 : e_Y := u_push (.inl 2147483649) n_94_67
theorem t_94_66 : e_Sn 94 66 (e_un n_94_66) := u_pushT (s_iconst (n := (1)) hq_94 (by decide +kernel) rfl ⟨by decide +kernel, by decide +kernel⟩ : e_Sn 94 66 (o_push (.inl 2147483649) 67)) t_94_67
noncomputable def n_94_65 : e_Y := u_ald 0 (u_old (o_ald e_fcs 66) n_94_66) n_94_66
theorem t_94_65 : e_Sn 94 65 (e_un n_94_65) := u_aldT (s_iald hq_94 (by decide +kernel) rfl : e_Sn 94 65 (o_ald e_fcs 66)) t_94_66
noncomputable def n_94_64 : e_Y := u_old (o_dup2 65) n_94_65
theorem t_94_64 : e_Sn 94 64 (e_un n_94_64) := u_oldT (s_dup2 hq_94 (by decide +kernel) rfl : e_Sn 94 64 (o_dup2 65)) t_94_65 e_cg_dup2
noncomputable def n_94_63 : e_Y := u_ald 0 (u_old (o_ald e_fcs 64) n_94_64) n_94_64
theorem t_94_63 : e_Sn 94 63 (e_un n_94_63) := u_aldT (s_iald hq_94 (by decide +kernel) rfl : e_Sn 94 63 (o_ald e_fcs 64)) t_94_64
noncomputable def n_94_62 : e_Y := u_push (.inl 2147483649) n_94_63
theorem t_94_62 : e_Sn 94 62 (e_un n_94_62) := u_pushT (s_iconst (n := (1)) hq_94 (by decide +kernel) rfl ⟨by decide +kernel, by decide +kernel⟩ : e_Sn 94 62 (o_push (.inl 2147483649) 63)) t_94_63
noncomputable def n_94_61 : e_Y := u_ld f_okA f_l2 n_94_62
theorem t_94_61 : e_Sn 94 61 (e_un n_94_61) := u_ldAT f_l2_eq (s_aload (i := .aload_n 2) (len := 1) hq_94 (by decide +kernel) rfl (.inr ⟨2, rfl, rfl, rfl⟩) : e_Sn 94 61 (o_load e_okR 2 62)) t_94_62
noncomputable def n_94_58 : e_Y := u_getf 14 12 (u_old (o_getf (e_f1 14 12) 61) n_94_61) n_94_61
theorem t_94_58 : e_Sn 94 58 (e_un n_94_58) := u_getfT (s_getf (C := er_14) (T := et_14) (N := 13) (ref := "PlateroomprinterModel$Machine") (index := 163) (ci := 14) (k := 12) hq_94 ho_94 ⟨rfl, by decide, ei_14, (List.mem_of_getElem? (i := 1927) (by decide +kernel)), .inl rfl⟩ (by decide +kernel) rfl : e_Sn 94 58 (o_getf (e_f1 14 12) 61)) t_94_61
noncomputable def n_94_55 : e_Y := u_getf 16 0 (u_old (o_getf (e_f1 16 0) 58) n_94_58) n_94_58
theorem t_94_55 : e_Sn 94 55 (e_un n_94_55) := u_getfT (s_getf (C := er_16) (T := et_16) (N := 5) (ref := "PlateroomprinterModel$Run") (index := 25) (ci := 16) (k := 0) hq_94 ho_94 ⟨rfl, by decide, ei_16, (List.mem_of_getElem? (i := 2150) (by decide +kernel)), .inl rfl⟩ (by decide +kernel) rfl : e_Sn 94 55 (o_getf (e_f1 16 0) 58)) t_94_58
noncomputable def n_94_54 : e_Y := u_ld f_okA f_l0 n_94_55
theorem t_94_54 : e_Sn 94 54 (e_un n_94_54) := u_ldAT f_l0_eq (s_aload (i := .aload_n 0) (len := 1) hq_94 (by decide +kernel) rfl (.inr ⟨0, rfl, rfl, rfl⟩) : e_Sn 94 54 (o_load e_okR 0 55)) t_94_55
noncomputable def n_94_51 : e_Y := u_callV 16 86 2 21 2 n_86_0 n_94_54
theorem t_94_51 : e_Sn 94 51 (e_un n_94_51) := u_callVT rfl (s_callV (ci := 16) (C := er_16) (T := et_16) (N := 5) (index := 159) hq_94 ho_94 hy_86 hp_86 hc_86 hi_86 hd_86 (List.mem_of_getElem? (i := 2259) (by decide +kernel)) hs_86 (List.mem_of_getElem? (i := 83) (by decide +kernel)) rfl (by decide +kernel) rfl : e_Sn 94 51 (o_callV (e_s1 16 86 2) 2 54)) t_86_0 t_94_54
noncomputable def n_94_50 : e_Y := u_ald 0 (u_old (o_ald e_fcs 51) n_94_51) n_94_51
theorem t_94_50 : e_Sn 94 50 (e_un n_94_50) := u_aldT (s_iald hq_94 (by decide +kernel) rfl : e_Sn 94 50 (o_ald e_fcs 51)) t_94_51
noncomputable def n_94_49 : e_Y := u_push (.inl 2147483649) n_94_50
theorem t_94_49 : e_Sn 94 49 (e_un n_94_49) := u_pushT (s_iconst (n := (1)) hq_94 (by decide +kernel) rfl ⟨by decide +kernel, by decide +kernel⟩ : e_Sn 94 49 (o_push (.inl 2147483649) 50)) t_94_50
noncomputable def n_94_48 : e_Y := u_ld f_okA f_l2 n_94_49
theorem t_94_48 : e_Sn 94 48 (e_un n_94_48) := u_ldAT f_l2_eq (s_aload (i := .aload_n 2) (len := 1) hq_94 (by decide +kernel) rfl (.inr ⟨2, rfl, rfl, rfl⟩) : e_Sn 94 48 (o_load e_okR 2 49)) t_94_49
noncomputable def n_94_47 : e_Y := u_ld f_okA f_l0 n_94_48
theorem t_94_47 : e_Sn 94 47 (e_un n_94_47) := u_ldAT f_l0_eq (s_aload (i := .aload_n 0) (len := 1) hq_94 (by decide +kernel) rfl (.inr ⟨0, rfl, rfl, rfl⟩) : e_Sn 94 47 (o_load e_okR 0 48)) t_94_48
noncomputable def n_94_44 : e_Y := n_94_123
theorem t_94_44 : e_Sn 94 44 (e_un n_94_44) := u_gotoT (s_goto (off := (79)) hq_94 (by decide +kernel) rfl : e_Sn 94 44 (o_goto 123)) t_94_123
noncomputable def n_94_41 : e_Y := u_callV 16 90 3 22 2 n_90_0 n_94_44
theorem t_94_41 : e_Sn 94 41 (e_un n_94_41) := u_callVT rfl (s_callV (ci := 16) (C := er_16) (T := et_16) (N := 5) (index := 118) hq_94 ho_94 hy_90 hp_90 hc_90 hi_90 hd_90 (List.mem_of_getElem? (i := 2196) (by decide +kernel)) hs_90 (List.mem_of_getElem? (i := 80) (by decide +kernel)) rfl (by decide +kernel) rfl : e_Sn 94 41 (o_callV (e_s1 16 90 3) 2 44)) t_90_0 t_94_44
noncomputable def n_94_40 : e_Y := u_old (o_i2l 41) n_94_41
theorem t_94_40 : e_Sn 94 40 (e_un n_94_40) := u_oldT (s_i2l hq_94 (by decide +kernel) rfl : e_Sn 94 40 (o_i2l 41)) t_94_41 e_congr_i2l
noncomputable def n_94_39 : e_Y := u_ald 0 (u_old (o_ald e_fcs 40) n_94_40) n_94_40
theorem t_94_39 : e_Sn 94 39 (e_un n_94_39) := u_aldT (s_iald hq_94 (by decide +kernel) rfl : e_Sn 94 39 (o_ald e_fcs 40)) t_94_40
noncomputable def n_94_38 : e_Y := u_push (.inl 2147483649) n_94_39
theorem t_94_38 : e_Sn 94 38 (e_un n_94_38) := u_pushT (s_iconst (n := (1)) hq_94 (by decide +kernel) rfl ⟨by decide +kernel, by decide +kernel⟩ : e_Sn 94 38 (o_push (.inl 2147483649) 39)) t_94_39
noncomputable def n_94_37 : e_Y := u_ld f_okA f_l2 n_94_38
theorem t_94_37 : e_Sn 94 37 (e_un n_94_37) := u_ldAT f_l2_eq (s_aload (i := .aload_n 2) (len := 1) hq_94 (by decide +kernel) rfl (.inr ⟨2, rfl, rfl, rfl⟩) : e_Sn 94 37 (o_load e_okR 2 38)) t_94_38
noncomputable def n_94_36 : e_Y := u_ld f_okA f_l0 n_94_37
theorem t_94_36 : e_Sn 94 36 (e_un n_94_36) := u_ldAT f_l0_eq (s_aload (i := .aload_n 0) (len := 1) hq_94 (by decide +kernel) rfl (.inr ⟨0, rfl, rfl, rfl⟩) : e_Sn 94 36 (o_load e_okR 0 37)) t_94_37
noncomputable def n_94_3 : e_Y := u_tab (o_switch 2147483648 [36, 47, 72, 91, 101] 113)
theorem t_94_3 : e_Sn 94 3 (e_un n_94_3) := u_tabT (s_switch (dflt := (110)) (low := (0)) (hi := (4)) (offs := #[(33), (44), (69), (88), (98)]) (len := 33) hq_94 (by decide +kernel) rfl rfl rfl rfl : e_Sn 94 3 (o_switch 2147483648 [36, 47, 72, 91, 101] 113))
noncomputable def n_94_2 : e_Y := u_ald 0 (u_old (o_ald e_fcs 3) n_94_3) n_94_3
theorem t_94_2 : e_Sn 94 2 (e_un n_94_2) := u_aldT (s_iald hq_94 (by decide +kernel) rfl : e_Sn 94 2 (o_ald e_fcs 3)) t_94_3
noncomputable def n_94_1 : e_Y := u_push (.inl 2147483648) n_94_2
theorem t_94_1 : e_Sn 94 1 (e_un n_94_1) := u_pushT (s_iconst (n := (0)) hq_94 (by decide +kernel) rfl ⟨by decide +kernel, by decide +kernel⟩ : e_Sn 94 1 (o_push (.inl 2147483648) 2)) t_94_2
noncomputable def n_94_0 : e_Y := u_ld f_okA f_l2 n_94_1
theorem t_94_0 : e_Sn 94 0 (e_un n_94_0) := u_ldAT f_l2_eq (s_aload (i := .aload_n 2) (len := 1) hq_94 (by decide +kernel) rfl (.inr ⟨2, rfl, rfl, rfl⟩) : e_Sn 94 0 (o_load e_okR 2 1)) t_94_1
noncomputable def e_tb_94 : e_X := (e_br 47 (e_br 36 (e_lf 0 (e_un n_94_0)) (e_lf 36 (e_un n_94_36))) (e_br 101 (e_lf 47 (e_un n_94_47)) (e_lf 101 (e_un n_94_101))))
theorem e_tk_94 : e_Tb 94 e_tb_94 := (e_brT (e_brT (e_lfT t_94_0) (e_lfT t_94_36)) (e_brT (e_lfT t_94_47) (e_lfT t_94_101)))
theorem hq_77 : (e_ml[77]?).map (·.2.1) = some prog_20_method_3_code := rfl
theorem ho_77 : (e_ml[77]?).map (·.1.cls) = some "PlateroomprinterModel$Run" := rfl
theorem hr_77 : (e_ml[77]?).map (·.2.2.2) = some none := rfl
noncomputable def n_77_173 : e_Y := u_tab (o_retv)
theorem t_77_173 : e_Sn 77 173 (e_un n_77_173) := u_tabT (s_vret hq_77 hr_77 (by decide +kernel) : e_Sn 77 173 (o_retv))
noncomputable def n_77_170 : e_Y := u_old (o_putf (e_f1 14 10) e_okI 173) n_77_173
theorem t_77_170 : e_Sn 77 170 (e_un n_77_170) := u_oldT (s_putf (ty0 := ey_14) (ok := e_okI) (C := er_14) (T := et_14) (N := 13) (ref := "PlateroomprinterModel$Machine") (index := 78) (ci := 14) (k := 10) hq_77 ho_77 ⟨rfl, by decide, ei_14, (List.mem_of_getElem? (i := 1921) (by decide +kernel)), .inl rfl⟩ eo_14 en_14 e_oksI (.inl rfl) (by decide +kernel) rfl : e_Sn 77 170 (o_putf (e_f1 14 10) e_okI 173)) t_77_173 (e_cg_putf (e_f1 14 10) e_okI)
noncomputable def n_77_167 : e_Y := u_getf 16 2 (u_old (o_getf (e_f1 16 2) 170) n_77_170) n_77_170
theorem t_77_167 : e_Sn 77 167 (e_un n_77_167) := u_getfT (s_getf (C := er_16) (T := et_16) (N := 5) (ref := "PlateroomprinterModel$Run") (index := 57) (ci := 16) (k := 2) hq_77 ho_77 ⟨rfl, by decide, ei_16, (List.mem_of_getElem? (i := 2152) (by decide +kernel)), .inl rfl⟩ (by decide +kernel) rfl : e_Sn 77 167 (o_getf (e_f1 16 2) 170)) t_77_170
noncomputable def n_77_166 : e_Y := u_ld f_okA f_l0 n_77_167
theorem t_77_166 : e_Sn 77 166 (e_un n_77_166) := u_ldAT f_l0_eq (s_aload (i := .aload_n 0) (len := 1) hq_77 (by decide +kernel) rfl (.inr ⟨0, rfl, rfl, rfl⟩) : e_Sn 77 166 (o_load e_okR 0 167)) t_77_167
noncomputable def n_77_163 : e_Y := u_getf 16 0 (u_old (o_getf (e_f1 16 0) 166) n_77_166) n_77_166
theorem t_77_163 : e_Sn 77 163 (e_un n_77_163) := u_getfT (s_getf (C := er_16) (T := et_16) (N := 5) (ref := "PlateroomprinterModel$Run") (index := 25) (ci := 16) (k := 0) hq_77 ho_77 ⟨rfl, by decide, ei_16, (List.mem_of_getElem? (i := 2150) (by decide +kernel)), .inl rfl⟩ (by decide +kernel) rfl : e_Sn 77 163 (o_getf (e_f1 16 0) 166)) t_77_166
noncomputable def n_77_162 : e_Y := u_ld f_okA f_l0 n_77_163
theorem t_77_162 : e_Sn 77 162 (e_un n_77_162) := u_ldAT f_l0_eq (s_aload (i := .aload_n 0) (len := 1) hq_77 (by decide +kernel) rfl (.inr ⟨0, rfl, rfl, rfl⟩) : e_Sn 77 162 (o_load e_okR 0 163)) t_77_163
noncomputable def n_77_159 : e_Y := u_old (o_putf (e_f1 14 9) e_okI 162) n_77_162
theorem t_77_159 : e_Sn 77 159 (e_un n_77_159) := u_oldT (s_putf (ty0 := ey_14) (ok := e_okI) (C := er_14) (T := et_14) (N := 13) (ref := "PlateroomprinterModel$Machine") (index := 77) (ci := 14) (k := 9) hq_77 ho_77 ⟨rfl, by decide, ei_14, (List.mem_of_getElem? (i := 1918) (by decide +kernel)), .inl rfl⟩ eo_14 en_14 e_oksI (.inl rfl) (by decide +kernel) rfl : e_Sn 77 159 (o_putf (e_f1 14 9) e_okI 162)) t_77_162 (e_cg_putf (e_f1 14 9) e_okI)
noncomputable def n_77_158 : e_Y := u_bin a_iadd (u_old (o_iadd 159) n_77_159) n_77_159
theorem t_77_158 : e_Sn 77 158 (e_un n_77_158) := u_iaddT (s_iadd hq_77 (by decide +kernel) rfl : e_Sn 77 158 (o_iadd 159)) t_77_159
noncomputable def n_77_155 : e_Y := u_getf 16 2 (u_old (o_getf (e_f1 16 2) 158) n_77_158) n_77_158
theorem t_77_155 : e_Sn 77 155 (e_un n_77_155) := u_getfT (s_getf (C := er_16) (T := et_16) (N := 5) (ref := "PlateroomprinterModel$Run") (index := 57) (ci := 16) (k := 2) hq_77 ho_77 ⟨rfl, by decide, ei_16, (List.mem_of_getElem? (i := 2152) (by decide +kernel)), .inl rfl⟩ (by decide +kernel) rfl : e_Sn 77 155 (o_getf (e_f1 16 2) 158)) t_77_158
noncomputable def n_77_154 : e_Y := u_ld f_okA f_l0 n_77_155
theorem t_77_154 : e_Sn 77 154 (e_un n_77_154) := u_ldAT f_l0_eq (s_aload (i := .aload_n 0) (len := 1) hq_77 (by decide +kernel) rfl (.inr ⟨0, rfl, rfl, rfl⟩) : e_Sn 77 154 (o_load e_okR 0 155)) t_77_155
noncomputable def n_77_151 : e_Y := u_getf 14 9 (u_old (o_getf (e_f1 14 9) 154) n_77_154) n_77_154
theorem t_77_151 : e_Sn 77 151 (e_un n_77_151) := u_getfT (s_getf (C := er_14) (T := et_14) (N := 13) (ref := "PlateroomprinterModel$Machine") (index := 77) (ci := 14) (k := 9) hq_77 ho_77 ⟨rfl, by decide, ei_14, (List.mem_of_getElem? (i := 1918) (by decide +kernel)), .inl rfl⟩ (by decide +kernel) rfl : e_Sn 77 151 (o_getf (e_f1 14 9) 154)) t_77_154
noncomputable def n_77_150 : e_Y := u_old (o_dup 151) n_77_151
theorem t_77_150 : e_Sn 77 150 (e_un n_77_150) := u_oldT (s_dup hq_77 (by decide +kernel) rfl : e_Sn 77 150 (o_dup 151)) t_77_151 e_cg_dup
noncomputable def n_77_147 : e_Y := u_getf 16 0 (u_old (o_getf (e_f1 16 0) 150) n_77_150) n_77_150
theorem t_77_147 : e_Sn 77 147 (e_un n_77_147) := u_getfT (s_getf (C := er_16) (T := et_16) (N := 5) (ref := "PlateroomprinterModel$Run") (index := 25) (ci := 16) (k := 0) hq_77 ho_77 ⟨rfl, by decide, ei_16, (List.mem_of_getElem? (i := 2150) (by decide +kernel)), .inl rfl⟩ (by decide +kernel) rfl : e_Sn 77 147 (o_getf (e_f1 16 0) 150)) t_77_150
noncomputable def n_77_146 : e_Y := u_ld f_okA f_l0 n_77_147
theorem t_77_146 : e_Sn 77 146 (e_un n_77_146) := u_ldAT f_l0_eq (s_aload (i := .aload_n 0) (len := 1) hq_77 (by decide +kernel) rfl (.inr ⟨0, rfl, rfl, rfl⟩) : e_Sn 77 146 (o_load e_okR 0 147)) t_77_147
noncomputable def n_77_143 : e_Y := (u_at 0)
theorem t_77_143 : e_Sn 77 143 (e_un n_77_143) := u_gotoT (s_goto (off := (-143)) hq_77 (by decide +kernel) rfl : e_Sn 77 143 (o_goto 0)) u_atT
noncomputable def n_77_140 : e_Y := u_callS 66 2 21 2 n_66_0 n_77_143
theorem t_77_140 : e_Sn 77 140 (e_un n_77_140) := u_callST rfl (s_callSN (host := "PlateroomprinterModel") (index := 73) hq_77 ho_77 hy_66 hp_66 hc_66 hi_66 hd_66 (List.mem_of_getElem? (i := 2203) (by decide +kernel)) hs_66 (by decide +kernel) rfl : e_Sn 77 140 (o_callS 66 2 2 143)) t_66_0 t_77_143
noncomputable def n_77_138 : e_Y := u_push (.inl 2147483659) n_77_140
theorem t_77_138 : e_Sn 77 138 (e_un n_77_138) := u_pushT (s_bipush (n := (11)) hq_77 (by decide +kernel) rfl ⟨by decide +kernel, by decide +kernel⟩ : e_Sn 77 138 (o_push (.inl 2147483659) 140)) t_77_140
noncomputable def n_77_134 : e_Y := n_77_138
theorem t_77_134 : e_Sn 77 134 (e_un n_77_134) := u_gotoT (s_goto (off := (4)) hq_77 (by decide +kernel) rfl : e_Sn 77 134 (o_goto 138)) t_77_138
noncomputable def n_77_133 : e_Y := u_push (.inl 2147483649) n_77_134
theorem t_77_133 : e_Sn 77 133 (e_un n_77_133) := u_pushT (s_iconst (n := (1)) hq_77 (by decide +kernel) rfl ⟨by decide +kernel, by decide +kernel⟩ : e_Sn 77 133 (o_push (.inl 2147483649) 134)) t_77_134
noncomputable def n_77_130 : e_Y := u_jmp y_le (u_old2 (o_cgt 137 133) 137 (u_at 137) n_77_133) (u_at 137) n_77_133
theorem t_77_130 : e_Sn 77 130 (e_un n_77_130) := u_cgtT rfl (s_cgt (off := (7)) hq_77 (by decide +kernel) rfl rfl : e_Sn 77 130 (o_cgt 137 133)) u_atT t_77_133
noncomputable def n_77_127 : e_Y := u_push (.inl 2147488648) n_77_130
theorem t_77_127 : e_Sn 77 127 (e_un n_77_127) := u_pushT (s_sipush (n := (5000)) hq_77 (by decide +kernel) rfl ⟨by decide +kernel, by decide +kernel⟩ : e_Sn 77 127 (o_push (.inl 2147488648) 130)) t_77_130
noncomputable def n_77_124 : e_Y := u_getf 16 2 (u_old (o_getf (e_f1 16 2) 127) n_77_127) n_77_127
theorem t_77_124 : e_Sn 77 124 (e_un n_77_124) := u_getfT (s_getf (C := er_16) (T := et_16) (N := 5) (ref := "PlateroomprinterModel$Run") (index := 57) (ci := 16) (k := 2) hq_77 ho_77 ⟨rfl, by decide, ei_16, (List.mem_of_getElem? (i := 2152) (by decide +kernel)), .inl rfl⟩ (by decide +kernel) rfl : e_Sn 77 124 (o_getf (e_f1 16 2) 127)) t_77_127
noncomputable def n_77_123 : e_Y := u_ld f_okA f_l0 n_77_124
theorem t_77_123 : e_Sn 77 123 (e_un n_77_123) := u_ldAT f_l0_eq (s_aload (i := .aload_n 0) (len := 1) hq_77 (by decide +kernel) rfl (.inr ⟨0, rfl, rfl, rfl⟩) : e_Sn 77 123 (o_load e_okR 0 124)) t_77_124
noncomputable def n_77_120 : e_Y := u_old (o_putf (e_f1 14 11) e_okI 123) n_77_123
theorem t_77_120 : e_Sn 77 120 (e_un n_77_120) := u_oldT (s_putf (ty0 := ey_14) (ok := e_okI) (C := er_14) (T := et_14) (N := 13) (ref := "PlateroomprinterModel$Machine") (index := 69) (ci := 14) (k := 11) hq_77 ho_77 ⟨rfl, by decide, ei_14, (List.mem_of_getElem? (i := 1924) (by decide +kernel)), .inl rfl⟩ eo_14 en_14 e_oksI (.inl rfl) (by decide +kernel) rfl : e_Sn 77 120 (o_putf (e_f1 14 11) e_okI 123)) t_77_123 (e_cg_putf (e_f1 14 11) e_okI)
noncomputable def n_77_119 : e_Y := u_bin a_iadd (u_old (o_iadd 120) n_77_120) n_77_120
theorem t_77_119 : e_Sn 77 119 (e_un n_77_119) := u_iaddT (s_iadd hq_77 (by decide +kernel) rfl : e_Sn 77 119 (o_iadd 120)) t_77_120
noncomputable def n_77_118 : e_Y := u_push (.inl 2147483649) n_77_119
theorem t_77_118 : e_Sn 77 118 (e_un n_77_118) := u_pushT (s_iconst (n := (1)) hq_77 (by decide +kernel) rfl ⟨by decide +kernel, by decide +kernel⟩ : e_Sn 77 118 (o_push (.inl 2147483649) 119)) t_77_119
noncomputable def n_77_115 : e_Y := u_getf 14 11 (u_old (o_getf (e_f1 14 11) 118) n_77_118) n_77_118
theorem t_77_115 : e_Sn 77 115 (e_un n_77_115) := u_getfT (s_getf (C := er_14) (T := et_14) (N := 13) (ref := "PlateroomprinterModel$Machine") (index := 69) (ci := 14) (k := 11) hq_77 ho_77 ⟨rfl, by decide, ei_14, (List.mem_of_getElem? (i := 1924) (by decide +kernel)), .inl rfl⟩ (by decide +kernel) rfl : e_Sn 77 115 (o_getf (e_f1 14 11) 118)) t_77_118
noncomputable def n_77_114 : e_Y := u_old (o_dup 115) n_77_115
theorem t_77_114 : e_Sn 77 114 (e_un n_77_114) := u_oldT (s_dup hq_77 (by decide +kernel) rfl : e_Sn 77 114 (o_dup 115)) t_77_115 e_cg_dup
noncomputable def n_77_111 : e_Y := u_getf 16 0 (u_old (o_getf (e_f1 16 0) 114) n_77_114) n_77_114
theorem t_77_111 : e_Sn 77 111 (e_un n_77_111) := u_getfT (s_getf (C := er_16) (T := et_16) (N := 5) (ref := "PlateroomprinterModel$Run") (index := 25) (ci := 16) (k := 0) hq_77 ho_77 ⟨rfl, by decide, ei_16, (List.mem_of_getElem? (i := 2150) (by decide +kernel)), .inl rfl⟩ (by decide +kernel) rfl : e_Sn 77 111 (o_getf (e_f1 16 0) 114)) t_77_114
noncomputable def n_77_110 : e_Y := u_ld f_okA f_l0 n_77_111
theorem t_77_110 : e_Sn 77 110 (e_un n_77_110) := u_ldAT f_l0_eq (s_aload (i := .aload_n 0) (len := 1) hq_77 (by decide +kernel) rfl (.inr ⟨0, rfl, rfl, rfl⟩) : e_Sn 77 110 (o_load e_okR 0 111)) t_77_111
noncomputable def n_77_107 : e_Y := u_callV 16 94 3 22 3 n_94_0 n_77_110
theorem t_77_107 : e_Sn 77 107 (e_un n_77_107) := u_callVT rfl (s_callV (ci := 16) (C := er_16) (T := et_16) (N := 5) (index := 65) hq_77 ho_77 hy_94 hp_94 hc_94 hi_94 hd_94 (List.mem_of_getElem? (i := 2255) (by decide +kernel)) hs_94 (List.mem_of_getElem? (i := 82) (by decide +kernel)) rfl (by decide +kernel) rfl : e_Sn 77 107 (o_callV (e_s1 16 94 3) 3 110)) t_94_0 t_77_110
noncomputable def n_77_104 : e_Y := u_old (o_cast 100 107) n_77_107
theorem t_77_104 : e_Sn 77 104 (e_un n_77_104) := u_oldT (s_cast (index := 63) hq_77 ho_77 (List.mem_of_getElem? (i := 2254) (by decide +kernel)) (.inr ⟨rfl, rfl⟩) (by decide +kernel) rfl : e_Sn 77 104 (o_cast 100 107)) t_77_107 (e_cg_cast 100)
noncomputable def n_77_101 : e_Y := u_callV 19 107 2 21 2 n_107_0 n_77_104
theorem t_77_101 : e_Sn 77 101 (e_un n_77_101) := u_callVT rfl (s_callV (ci := 19) (C := er_19) (T := et_19) (N := 3) (index := 42) hq_77 ho_77 hy_107 hp_107 hc_107 hi_107 hd_107 (List.mem_of_getElem? (i := 2182) (by decide +kernel)) hs_107 (List.mem_of_getElem? (i := 2051) (by decide +kernel)) rfl (by decide +kernel) rfl : e_Sn 77 101 (o_callV (e_s1 19 107 2) 2 104)) t_107_0 t_77_104
noncomputable def n_77_98 : e_Y := u_getf 16 4 (u_old (o_getf (e_f1 16 4) 101) n_77_101) n_77_101
theorem t_77_98 : e_Sn 77 98 (e_un n_77_98) := u_getfT (s_getf (C := er_16) (T := et_16) (N := 5) (ref := "PlateroomprinterModel$Run") (index := 22) (ci := 16) (k := 4) hq_77 ho_77 ⟨rfl, by decide, ei_16, (List.mem_of_getElem? (i := 2155) (by decide +kernel)), .inl rfl⟩ (by decide +kernel) rfl : e_Sn 77 98 (o_getf (e_f1 16 4) 101)) t_77_101
noncomputable def n_77_97 : e_Y := u_ld f_okA f_l0 n_77_98
theorem t_77_97 : e_Sn 77 97 (e_un n_77_97) := u_ldAT f_l0_eq (s_aload (i := .aload_n 0) (len := 1) hq_77 (by decide +kernel) rfl (.inr ⟨0, rfl, rfl, rfl⟩) : e_Sn 77 97 (o_load e_okR 0 98)) t_77_98
noncomputable def n_77_94 : e_Y := u_getf 15 0 (u_old (o_getf (e_f1 15 0) 97) n_77_97) n_77_97
theorem t_77_94 : e_Sn 77 94 (e_un n_77_94) := u_getfT (s_getf (C := er_15) (T := et_15) (N := 8) (ref := "PlateroomprinterModel$Row") (index := 60) (ci := 15) (k := 0) hq_77 ho_77 ⟨rfl, by decide, ei_15, (List.mem_of_getElem? (i := 2123) (by decide +kernel)), .inl rfl⟩ (by decide +kernel) rfl : e_Sn 77 94 (o_getf (e_f1 15 0) 97)) t_77_97
noncomputable def n_77_93 : e_Y := u_ld f_okA f_l1 n_77_94
theorem t_77_93 : e_Sn 77 93 (e_un n_77_93) := u_ldAT f_l1_eq (s_aload (i := .aload_n 1) (len := 1) hq_77 (by decide +kernel) rfl (.inr ⟨1, rfl, rfl, rfl⟩) : e_Sn 77 93 (o_load e_okR 1 94)) t_77_94
noncomputable def n_77_92 : e_Y := u_ld f_okA f_l1 n_77_93
theorem t_77_92 : e_Sn 77 92 (e_un n_77_92) := u_ldAT f_l1_eq (s_aload (i := .aload_n 1) (len := 1) hq_77 (by decide +kernel) rfl (.inr ⟨1, rfl, rfl, rfl⟩) : e_Sn 77 92 (o_load e_okR 1 93)) t_77_93
noncomputable def n_77_91 : e_Y := u_ld f_okA f_l0 n_77_92
theorem t_77_91 : e_Sn 77 91 (e_un n_77_91) := u_ldAT f_l0_eq (s_aload (i := .aload_n 0) (len := 1) hq_77 (by decide +kernel) rfl (.inr ⟨0, rfl, rfl, rfl⟩) : e_Sn 77 91 (o_load e_okR 0 92)) t_77_92
noncomputable def n_77_88 : e_Y := u_old (o_putf (e_f1 16 2) e_okI 91) n_77_91
theorem t_77_88 : e_Sn 77 88 (e_un n_77_88) := u_oldT (s_putf (ty0 := ey_16) (ok := e_okI) (C := er_16) (T := et_16) (N := 5) (ref := "PlateroomprinterModel$Run") (index := 57) (ci := 16) (k := 2) hq_77 ho_77 ⟨rfl, by decide, ei_16, (List.mem_of_getElem? (i := 2152) (by decide +kernel)), .inl rfl⟩ eo_16 en_16 e_oksI (.inl rfl) (by decide +kernel) rfl : e_Sn 77 88 (o_putf (e_f1 16 2) e_okI 91)) t_77_91 (e_cg_putf (e_f1 16 2) e_okI)
noncomputable def n_77_87 : e_Y := u_bin a_iadd (u_old (o_iadd 88) n_77_88) n_77_88
theorem t_77_87 : e_Sn 77 87 (e_un n_77_87) := u_iaddT (s_iadd hq_77 (by decide +kernel) rfl : e_Sn 77 87 (o_iadd 88)) t_77_88
noncomputable def n_77_86 : e_Y := u_push (.inl 2147483649) n_77_87
theorem t_77_86 : e_Sn 77 86 (e_un n_77_86) := u_pushT (s_iconst (n := (1)) hq_77 (by decide +kernel) rfl ⟨by decide +kernel, by decide +kernel⟩ : e_Sn 77 86 (o_push (.inl 2147483649) 87)) t_77_87
noncomputable def n_77_83 : e_Y := u_getf 16 2 (u_old (o_getf (e_f1 16 2) 86) n_77_86) n_77_86
theorem t_77_83 : e_Sn 77 83 (e_un n_77_83) := u_getfT (s_getf (C := er_16) (T := et_16) (N := 5) (ref := "PlateroomprinterModel$Run") (index := 57) (ci := 16) (k := 2) hq_77 ho_77 ⟨rfl, by decide, ei_16, (List.mem_of_getElem? (i := 2152) (by decide +kernel)), .inl rfl⟩ (by decide +kernel) rfl : e_Sn 77 83 (o_getf (e_f1 16 2) 86)) t_77_86
noncomputable def n_77_82 : e_Y := u_old (o_dup 83) n_77_83
theorem t_77_82 : e_Sn 77 82 (e_un n_77_82) := u_oldT (s_dup hq_77 (by decide +kernel) rfl : e_Sn 77 82 (o_dup 83)) t_77_83 e_cg_dup
noncomputable def n_77_81 : e_Y := u_ld f_okA f_l0 n_77_82
theorem t_77_81 : e_Sn 77 81 (e_un n_77_81) := u_ldAT f_l0_eq (s_aload (i := .aload_n 0) (len := 1) hq_77 (by decide +kernel) rfl (.inr ⟨0, rfl, rfl, rfl⟩) : e_Sn 77 81 (o_load e_okR 0 82)) t_77_82
noncomputable def n_77_78 : e_Y := u_old (o_putf (e_f1 15 1) e_okI 81) n_77_81
theorem t_77_78 : e_Sn 77 78 (e_un n_77_78) := u_oldT (s_putf (ty0 := ey_15) (ok := e_okI) (C := er_15) (T := et_15) (N := 8) (ref := "PlateroomprinterModel$Row") (index := 50) (ci := 15) (k := 1) hq_77 ho_77 ⟨rfl, by decide, ei_15, (List.mem_of_getElem? (i := 2125) (by decide +kernel)), .inl rfl⟩ eo_15 en_15 e_oksI (.inl rfl) (by decide +kernel) rfl : e_Sn 77 78 (o_putf (e_f1 15 1) e_okI 81)) t_77_81 (e_cg_putf (e_f1 15 1) e_okI)
noncomputable def n_77_77 : e_Y := u_bin a_iadd (u_old (o_iadd 78) n_77_78) n_77_78
theorem t_77_77 : e_Sn 77 77 (e_un n_77_77) := u_iaddT (s_iadd hq_77 (by decide +kernel) rfl : e_Sn 77 77 (o_iadd 78)) t_77_78
noncomputable def n_77_76 : e_Y := u_push (.inl 2147483649) n_77_77
theorem t_77_76 : e_Sn 77 76 (e_un n_77_76) := u_pushT (s_iconst (n := (1)) hq_77 (by decide +kernel) rfl ⟨by decide +kernel, by decide +kernel⟩ : e_Sn 77 76 (o_push (.inl 2147483649) 77)) t_77_77
noncomputable def n_77_73 : e_Y := u_getf 15 1 (u_old (o_getf (e_f1 15 1) 76) n_77_76) n_77_76
theorem t_77_73 : e_Sn 77 73 (e_un n_77_73) := u_getfT (s_getf (C := er_15) (T := et_15) (N := 8) (ref := "PlateroomprinterModel$Row") (index := 50) (ci := 15) (k := 1) hq_77 ho_77 ⟨rfl, by decide, ei_15, (List.mem_of_getElem? (i := 2125) (by decide +kernel)), .inl rfl⟩ (by decide +kernel) rfl : e_Sn 77 73 (o_getf (e_f1 15 1) 76)) t_77_76
noncomputable def n_77_72 : e_Y := u_old (o_dup 73) n_77_73
theorem t_77_72 : e_Sn 77 72 (e_un n_77_72) := u_oldT (s_dup hq_77 (by decide +kernel) rfl : e_Sn 77 72 (o_dup 73)) t_77_73 e_cg_dup
noncomputable def n_77_71 : e_Y := u_ld f_okA f_l1 n_77_72
theorem t_77_71 : e_Sn 77 71 (e_un n_77_71) := u_ldAT f_l1_eq (s_aload (i := .aload_n 1) (len := 1) hq_77 (by decide +kernel) rfl (.inr ⟨1, rfl, rfl, rfl⟩) : e_Sn 77 71 (o_load e_okR 1 72)) t_77_72
noncomputable def n_77_70 : e_Y := u_st f_okA f_s1 n_77_71
theorem t_77_70 : e_Sn 77 70 (e_un n_77_70) := u_stAT (fun _ _ _ => f_s1_eq) (s_astore (i := .astore_n 1) (len := 1) hq_77 (by decide +kernel) rfl (.inr ⟨1, rfl, rfl, rfl⟩) : e_Sn 77 70 (o_store e_okR 1 71)) t_77_71
noncomputable def n_77_67 : e_Y := u_callV 16 95 1 20 1 n_95_0 n_77_70
theorem t_77_67 : e_Sn 77 67 (e_un n_77_67) := u_callVT rfl (s_callV (ci := 16) (C := er_16) (T := et_16) (N := 5) (index := 53) hq_77 ho_77 hy_95 hp_95 hc_95 hi_95 hd_95 (List.mem_of_getElem? (i := 2177) (by decide +kernel)) hs_95 (List.mem_of_getElem? (i := 77) (by decide +kernel)) rfl (by decide +kernel) rfl : e_Sn 77 67 (o_callV (e_s1 16 95 1) 1 70)) t_95_0 t_77_70
noncomputable def n_77_66 : e_Y := u_ld f_okA f_l0 n_77_67
theorem t_77_66 : e_Sn 77 66 (e_un n_77_66) := u_ldAT f_l0_eq (s_aload (i := .aload_n 0) (len := 1) hq_77 (by decide +kernel) rfl (.inr ⟨0, rfl, rfl, rfl⟩) : e_Sn 77 66 (o_load e_okR 0 67)) t_77_67
noncomputable def n_77_63 : e_Y := u_old (o_putf (e_f1 16 4) e_okI 66) n_77_66
theorem t_77_63 : e_Sn 77 63 (e_un n_77_63) := u_oldT (s_putf (ty0 := ey_16) (ok := e_okI) (C := er_16) (T := et_16) (N := 5) (ref := "PlateroomprinterModel$Run") (index := 22) (ci := 16) (k := 4) hq_77 ho_77 ⟨rfl, by decide, ei_16, (List.mem_of_getElem? (i := 2155) (by decide +kernel)), .inl rfl⟩ eo_16 en_16 e_oksI (.inl rfl) (by decide +kernel) rfl : e_Sn 77 63 (o_putf (e_f1 16 4) e_okI 66)) t_77_66 (e_cg_putf (e_f1 16 4) e_okI)
noncomputable def n_77_60 : e_Y := u_getf 15 1 (u_old (o_getf (e_f1 15 1) 63) n_77_63) n_77_63
theorem t_77_60 : e_Sn 77 60 (e_un n_77_60) := u_getfT (s_getf (C := er_15) (T := et_15) (N := 8) (ref := "PlateroomprinterModel$Row") (index := 50) (ci := 15) (k := 1) hq_77 ho_77 ⟨rfl, by decide, ei_15, (List.mem_of_getElem? (i := 2125) (by decide +kernel)), .inl rfl⟩ (by decide +kernel) rfl : e_Sn 77 60 (o_getf (e_f1 15 1) 63)) t_77_63
noncomputable def n_77_57 : e_Y := u_callV 16 95 1 20 1 n_95_0 n_77_60
theorem t_77_57 : e_Sn 77 57 (e_un n_77_57) := u_callVT rfl (s_callV (ci := 16) (C := er_16) (T := et_16) (N := 5) (index := 53) hq_77 ho_77 hy_95 hp_95 hc_95 hi_95 hd_95 (List.mem_of_getElem? (i := 2177) (by decide +kernel)) hs_95 (List.mem_of_getElem? (i := 77) (by decide +kernel)) rfl (by decide +kernel) rfl : e_Sn 77 57 (o_callV (e_s1 16 95 1) 1 60)) t_95_0 t_77_60
noncomputable def n_77_56 : e_Y := u_ld f_okA f_l0 n_77_57
theorem t_77_56 : e_Sn 77 56 (e_un n_77_56) := u_ldAT f_l0_eq (s_aload (i := .aload_n 0) (len := 1) hq_77 (by decide +kernel) rfl (.inr ⟨0, rfl, rfl, rfl⟩) : e_Sn 77 56 (o_load e_okR 0 57)) t_77_57
noncomputable def n_77_55 : e_Y := u_ld f_okA f_l0 n_77_56
theorem t_77_55 : e_Sn 77 55 (e_un n_77_55) := u_ldAT f_l0_eq (s_aload (i := .aload_n 0) (len := 1) hq_77 (by decide +kernel) rfl (.inr ⟨0, rfl, rfl, rfl⟩) : e_Sn 77 55 (o_load e_okR 0 56)) t_77_56
noncomputable def n_77_52 : e_Y := u_old (o_putf (e_f1 16 3) e_okI 55) n_77_55
theorem t_77_52 : e_Sn 77 52 (e_un n_77_52) := u_oldT (s_putf (ty0 := ey_16) (ok := e_okI) (C := er_16) (T := et_16) (N := 5) (ref := "PlateroomprinterModel$Run") (index := 18) (ci := 16) (k := 3) hq_77 ho_77 ⟨rfl, by decide, ei_16, (List.mem_of_getElem? (i := 2153) (by decide +kernel)), .inl rfl⟩ eo_16 en_16 e_oksI (.inl rfl) (by decide +kernel) rfl : e_Sn 77 52 (o_putf (e_f1 16 3) e_okI 55)) t_77_55 (e_cg_putf (e_f1 16 3) e_okI)
noncomputable def n_77_51 : e_Y := u_bin a_isub (u_old (o_isub 52) n_77_52) n_77_52
theorem t_77_51 : e_Sn 77 51 (e_un n_77_51) := u_isubT (s_isub hq_77 (by decide +kernel) rfl : e_Sn 77 51 (o_isub 52)) t_77_52
noncomputable def n_77_50 : e_Y := u_push (.inl 2147483649) n_77_51
theorem t_77_50 : e_Sn 77 50 (e_un n_77_50) := u_pushT (s_iconst (n := (1)) hq_77 (by decide +kernel) rfl ⟨by decide +kernel, by decide +kernel⟩ : e_Sn 77 50 (o_push (.inl 2147483649) 51)) t_77_51
noncomputable def n_77_47 : e_Y := u_getf 15 1 (u_old (o_getf (e_f1 15 1) 50) n_77_50) n_77_50
theorem t_77_47 : e_Sn 77 47 (e_un n_77_47) := u_getfT (s_getf (C := er_15) (T := et_15) (N := 8) (ref := "PlateroomprinterModel$Row") (index := 50) (ci := 15) (k := 1) hq_77 ho_77 ⟨rfl, by decide, ei_15, (List.mem_of_getElem? (i := 2125) (by decide +kernel)), .inl rfl⟩ (by decide +kernel) rfl : e_Sn 77 47 (o_getf (e_f1 15 1) 50)) t_77_50
noncomputable def n_77_44 : e_Y := u_old (o_cast 15 47) n_77_47
theorem t_77_44 : e_Sn 77 44 (e_un n_77_44) := u_oldT (s_cast (index := 29) hq_77 ho_77 (List.mem_of_getElem? (i := 2116) (by decide +kernel)) (.inl ⟨by decide, rfl⟩) (by decide +kernel) rfl : e_Sn 77 44 (o_cast 15 47)) t_77_47 (e_cg_cast 15)
noncomputable def n_77_41 : e_Y := u_callV 19 107 2 21 2 n_107_0 n_77_44
theorem t_77_41 : e_Sn 77 41 (e_un n_77_41) := u_callVT rfl (s_callV (ci := 19) (C := er_19) (T := et_19) (N := 3) (index := 42) hq_77 ho_77 hy_107 hp_107 hc_107 hi_107 hd_107 (List.mem_of_getElem? (i := 2182) (by decide +kernel)) hs_107 (List.mem_of_getElem? (i := 2051) (by decide +kernel)) rfl (by decide +kernel) rfl : e_Sn 77 41 (o_callV (e_s1 19 107 2) 2 44)) t_107_0 t_77_44
noncomputable def n_77_40 : e_Y := u_push (.inl 2147483648) n_77_41
theorem t_77_40 : e_Sn 77 40 (e_un n_77_40) := u_pushT (s_iconst (n := (0)) hq_77 (by decide +kernel) rfl ⟨by decide +kernel, by decide +kernel⟩ : e_Sn 77 40 (o_push (.inl 2147483648) 41)) t_77_41
noncomputable def n_77_37 : e_Y := u_getf 16 1 (u_old (o_getf (e_f1 16 1) 40) n_77_40) n_77_40
theorem t_77_37 : e_Sn 77 37 (e_un n_77_37) := u_getfT (s_getf (C := er_16) (T := et_16) (N := 5) (ref := "PlateroomprinterModel$Run") (index := 12) (ci := 16) (k := 1) hq_77 ho_77 ⟨rfl, by decide, ei_16, (List.mem_of_getElem? (i := 2151) (by decide +kernel)), .inl rfl⟩ (by decide +kernel) rfl : e_Sn 77 37 (o_getf (e_f1 16 1) 40)) t_77_40
noncomputable def n_77_36 : e_Y := u_ld f_okA f_l0 n_77_37
theorem t_77_36 : e_Sn 77 36 (e_un n_77_36) := u_ldAT f_l0_eq (s_aload (i := .aload_n 0) (len := 1) hq_77 (by decide +kernel) rfl (.inr ⟨0, rfl, rfl, rfl⟩) : e_Sn 77 36 (o_load e_okR 0 37)) t_77_37
noncomputable def n_77_33 : e_Y := n_77_52
theorem t_77_33 : e_Sn 77 33 (e_un n_77_33) := u_gotoT (s_goto (off := (19)) hq_77 (by decide +kernel) rfl : e_Sn 77 33 (o_goto 52)) t_77_52
noncomputable def n_77_30 : e_Y := u_getf 15 1 (u_old (o_getf (e_f1 15 1) 33) n_77_33) n_77_33
theorem t_77_30 : e_Sn 77 30 (e_un n_77_30) := u_getfT (s_getf (C := er_15) (T := et_15) (N := 8) (ref := "PlateroomprinterModel$Row") (index := 50) (ci := 15) (k := 1) hq_77 ho_77 ⟨rfl, by decide, ei_15, (List.mem_of_getElem? (i := 2125) (by decide +kernel)), .inl rfl⟩ (by decide +kernel) rfl : e_Sn 77 30 (o_getf (e_f1 15 1) 33)) t_77_33
noncomputable def n_77_27 : e_Y := u_old (o_cast 15 30) n_77_30
theorem t_77_27 : e_Sn 77 27 (e_un n_77_27) := u_oldT (s_cast (index := 29) hq_77 ho_77 (List.mem_of_getElem? (i := 2116) (by decide +kernel)) (.inl ⟨by decide, rfl⟩) (by decide +kernel) rfl : e_Sn 77 27 (o_cast 15 30)) t_77_30 (e_cg_cast 15)
noncomputable def n_77_24 : e_Y := u_callV 19 107 2 21 2 n_107_0 n_77_27
theorem t_77_24 : e_Sn 77 24 (e_un n_77_24) := u_callVT rfl (s_callV (ci := 19) (C := er_19) (T := et_19) (N := 3) (index := 42) hq_77 ho_77 hy_107 hp_107 hc_107 hi_107 hd_107 (List.mem_of_getElem? (i := 2182) (by decide +kernel)) hs_107 (List.mem_of_getElem? (i := 2051) (by decide +kernel)) rfl (by decide +kernel) rfl : e_Sn 77 24 (o_callV (e_s1 19 107 2) 2 27)) t_107_0 t_77_27
noncomputable def n_77_23 : e_Y := u_push (.inl 2147483648) n_77_24
theorem t_77_23 : e_Sn 77 23 (e_un n_77_23) := u_pushT (s_iconst (n := (0)) hq_77 (by decide +kernel) rfl ⟨by decide +kernel, by decide +kernel⟩ : e_Sn 77 23 (o_push (.inl 2147483648) 24)) t_77_24
noncomputable def n_77_20 : e_Y := u_getf 16 1 (u_old (o_getf (e_f1 16 1) 23) n_77_23) n_77_23
theorem t_77_20 : e_Sn 77 20 (e_un n_77_20) := u_getfT (s_getf (C := er_16) (T := et_16) (N := 5) (ref := "PlateroomprinterModel$Run") (index := 12) (ci := 16) (k := 1) hq_77 ho_77 ⟨rfl, by decide, ei_16, (List.mem_of_getElem? (i := 2151) (by decide +kernel)), .inl rfl⟩ (by decide +kernel) rfl : e_Sn 77 20 (o_getf (e_f1 16 1) 23)) t_77_23
noncomputable def n_77_19 : e_Y := u_ld f_okA f_l0 n_77_20
theorem t_77_19 : e_Sn 77 19 (e_un n_77_19) := u_ldAT f_l0_eq (s_aload (i := .aload_n 0) (len := 1) hq_77 (by decide +kernel) rfl (.inr ⟨0, rfl, rfl, rfl⟩) : e_Sn 77 19 (o_load e_okR 0 20)) t_77_20
noncomputable def n_77_16 : e_Y := u_jmp y_ne (u_old2 (o_ceq 19 36) 19 n_77_19 n_77_36) n_77_19 n_77_36
theorem t_77_16 : e_Sn 77 16 (e_un n_77_16) := u_ceqT rfl (s_cne (off := (20)) hq_77 (by decide +kernel) rfl rfl : e_Sn 77 16 (o_ceq 19 36)) t_77_19 t_77_36
noncomputable def n_77_15 : e_Y := u_push (.inl 2147483649) n_77_16
theorem t_77_15 : e_Sn 77 15 (e_un n_77_15) := u_pushT (s_iconst (n := (1)) hq_77 (by decide +kernel) rfl ⟨by decide +kernel, by decide +kernel⟩ : e_Sn 77 15 (o_push (.inl 2147483649) 16)) t_77_16
noncomputable def n_77_12 : e_Y := u_callV 19 113 1 20 1 n_113_0 n_77_15
theorem t_77_12 : e_Sn 77 12 (e_un n_77_12) := u_callVT rfl (s_callV (ci := 19) (C := er_19) (T := et_19) (N := 3) (index := 38) hq_77 ho_77 hy_113 hp_113 hc_113 hi_113 hd_113 (List.mem_of_getElem? (i := 2181) (by decide +kernel)) hs_113 (List.mem_of_getElem? (i := 2002) (by decide +kernel)) rfl (by decide +kernel) rfl : e_Sn 77 12 (o_callV (e_s1 19 113 1) 1 15)) t_113_0 t_77_15
noncomputable def n_77_9 : e_Y := u_getf 16 1 (u_old (o_getf (e_f1 16 1) 12) n_77_12) n_77_12
theorem t_77_9 : e_Sn 77 9 (e_un n_77_9) := u_getfT (s_getf (C := er_16) (T := et_16) (N := 5) (ref := "PlateroomprinterModel$Run") (index := 12) (ci := 16) (k := 1) hq_77 ho_77 ⟨rfl, by decide, ei_16, (List.mem_of_getElem? (i := 2151) (by decide +kernel)), .inl rfl⟩ (by decide +kernel) rfl : e_Sn 77 9 (o_getf (e_f1 16 1) 12)) t_77_12
noncomputable def n_77_8 : e_Y := u_ld f_okA f_l0 n_77_9
theorem t_77_8 : e_Sn 77 8 (e_un n_77_8) := u_ldAT f_l0_eq (s_aload (i := .aload_n 0) (len := 1) hq_77 (by decide +kernel) rfl (.inr ⟨0, rfl, rfl, rfl⟩) : e_Sn 77 8 (o_load e_okR 0 9)) t_77_9
noncomputable def n_77_7 : e_Y := u_ld f_okA f_l0 n_77_8
theorem t_77_7 : e_Sn 77 7 (e_un n_77_7) := u_ldAT f_l0_eq (s_aload (i := .aload_n 0) (len := 1) hq_77 (by decide +kernel) rfl (.inr ⟨0, rfl, rfl, rfl⟩) : e_Sn 77 7 (o_load e_okR 0 8)) t_77_8
noncomputable def n_77_4 : e_Y := u_if y_ne0 (u_old2 (o_ifeq 146 7) 146 n_77_146 n_77_7) n_77_146 n_77_7
theorem t_77_4 : e_Sn 77 4 (e_un n_77_4) := u_ifeqT rfl (s_ifeq (off := (142)) hq_77 (by decide +kernel) rfl rfl : e_Sn 77 4 (o_ifeq 146 7)) t_77_146 t_77_7
noncomputable def n_77_1 : e_Y := u_callV 16 82 2 21 1 n_82_0 n_77_4
theorem t_77_1 : e_Sn 77 1 (e_un n_77_1) := u_callVT rfl (s_callV (ci := 16) (C := er_16) (T := et_16) (N := 5) (index := 46) hq_77 ho_77 hy_82 hp_82 hc_82 hi_82 hd_82 (List.mem_of_getElem? (i := 2172) (by decide +kernel)) hs_82 (List.mem_of_getElem? (i := 76) (by decide +kernel)) rfl (by decide +kernel) rfl : e_Sn 77 1 (o_callV (e_s1 16 82 2) 1 4)) t_82_0 t_77_4
noncomputable def n_77_0 : e_Y := u_ld f_okA f_l0 n_77_1
theorem t_77_0 : e_Sn 77 0 (e_un n_77_0) := u_ldAT f_l0_eq (s_aload (i := .aload_n 0) (len := 1) hq_77 (by decide +kernel) rfl (.inr ⟨0, rfl, rfl, rfl⟩) : e_Sn 77 0 (o_load e_okR 0 1)) t_77_1
noncomputable def e_tb_77 : e_X := (e_lf 0 (e_un n_77_0))
theorem e_tk_77 : e_Tb 77 e_tb_77 := (e_lfT t_77_0)
theorem hq_68 : (e_ml[68]?).map (·.2.1) = some prog_14_method_31_code := rfl
theorem ho_68 : (e_ml[68]?).map (·.1.cls) = some "PlateroomprinterModel" := rfl
theorem hr_68 : (e_ml[68]?).map (·.2.2.2) = some (some .int) := rfl
noncomputable def n_68_74 : e_Y := u_retI
theorem t_68_74 : e_Sn 68 74 (e_un n_68_74) := u_retIT (s_iret hq_68 hr_68 (by decide +kernel) : e_Sn 68 74 (o_ret e_okI))
noncomputable def n_68_71 : e_Y := u_callV 12 63 4 23 4 n_63_0 n_68_74
theorem t_68_71 : e_Sn 68 71 (e_un n_68_71) := u_callVT rfl (s_callV (ci := 12) (C := er_12) (T := et_12) (N := 5) (index := 177) hq_68 ho_68 hy_63 hp_63 hc_63 hi_63 hd_63 (List.mem_of_getElem? (i := 2891) (by decide +kernel)) hs_63 (List.mem_of_getElem? (i := 121) (by decide +kernel)) rfl (by decide +kernel) rfl : e_Sn 68 71 (o_callV (e_s1 12 63 4) 4 74)) t_63_0 t_68_74
noncomputable def n_68_70 : e_Y := u_push (.inl 2147483647) n_68_71
theorem t_68_70 : e_Sn 68 70 (e_un n_68_70) := u_pushT (s_iconst (n := (-1)) hq_68 (by decide +kernel) rfl ⟨by decide +kernel, by decide +kernel⟩ : e_Sn 68 70 (o_push (.inl 2147483647) 71)) t_68_71
noncomputable def n_68_69 : e_Y := u_push (.inl 2147483647) n_68_70
theorem t_68_69 : e_Sn 68 69 (e_un n_68_69) := u_pushT (s_iconst (n := (-1)) hq_68 (by decide +kernel) rfl ⟨by decide +kernel, by decide +kernel⟩ : e_Sn 68 69 (o_push (.inl 2147483647) 70)) t_68_70
noncomputable def n_68_68 : e_Y := u_push (.inl 2147483648) n_68_69
theorem t_68_68 : e_Sn 68 68 (e_un n_68_68) := u_pushT (s_iconst (n := (0)) hq_68 (by decide +kernel) rfl ⟨by decide +kernel, by decide +kernel⟩ : e_Sn 68 68 (o_push (.inl 2147483648) 69)) t_68_69
noncomputable def n_68_67 : e_Y := u_ld f_okA f_l0 n_68_68
theorem t_68_67 : e_Sn 68 67 (e_un n_68_67) := u_ldAT f_l0_eq (s_aload (i := .aload_n 0) (len := 1) hq_68 (by decide +kernel) rfl (.inr ⟨0, rfl, rfl, rfl⟩) : e_Sn 68 67 (o_load e_okR 0 68)) t_68_68
noncomputable def n_68_64 : e_Y := u_old (o_putf (e_f1 12 2) e_okR 67) n_68_67
theorem t_68_64 : e_Sn 68 64 (e_un n_68_64) := u_oldT (s_putf (ty0 := ey_12) (ok := e_okR) (C := er_12) (T := et_12) (N := 5) (ref := "PlateroomprinterModel") (index := 19) (ci := 12) (k := 2) hq_68 ho_68 ⟨rfl, by decide, ei_12, (List.mem_of_getElem? (i := 1960) (by decide +kernel)), .inl rfl⟩ eo_12 en_12 e_oksR (.inl rfl) (by decide +kernel) rfl : e_Sn 68 64 (o_putf (e_f1 12 2) e_okR 67)) t_68_67 (e_cg_putf (e_f1 12 2) e_okR)
noncomputable def n_68_61 : e_Y := u_tab (o_callI 102 1 1 64)
theorem t_68_61 : e_Sn 68 61 (e_un n_68_61) := u_tabT (s_callI (index := 18) hq_68 ho_68 hy_102 hp_102 hc_102 hi_102 hd_102 (List.mem_of_getElem? (i := 1957) (by decide +kernel)) rfl rfl hs_102 (by decide +kernel) rfl : e_Sn 68 61 (o_callI 102 1 1 64))
noncomputable def n_68_60 : e_Y := u_old (o_dup 61) n_68_61
theorem t_68_60 : e_Sn 68 60 (e_un n_68_60) := u_oldT (s_dup hq_68 (by decide +kernel) rfl : e_Sn 68 60 (o_dup 61)) t_68_61 e_cg_dup
noncomputable def n_68_57 : e_Y := u_tab (o_new 19 3 ef_19 60)
theorem t_68_57 : e_Sn 68 57 (e_un n_68_57) := u_tabT (s_new (index := 16) (ci := 19) (N := 3) (C := er_19) (T := et_19) (ty0 := ey_19) (fv := eg_19) hq_68 ho_68 rfl ei_19 eo_19 (List.mem_of_getElem? (i := 1956) (by decide +kernel)) (List.mem_of_getElem? (i := 1751) (by decide +kernel)) (List.mem_of_getElem? (i := 155) (by decide +kernel)) eh_19 rfl (e_newrel ek_19) (by decide +kernel) rfl : e_Sn 68 57 (o_new 19 3 ef_19 60))
noncomputable def n_68_56 : e_Y := u_ld f_okA f_l0 n_68_57
theorem t_68_56 : e_Sn 68 56 (e_un n_68_56) := u_ldAT f_l0_eq (s_aload (i := .aload_n 0) (len := 1) hq_68 (by decide +kernel) rfl (.inr ⟨0, rfl, rfl, rfl⟩) : e_Sn 68 56 (o_load e_okR 0 57)) t_68_57
noncomputable def n_68_53 : e_Y := u_old (o_putf (e_f1 12 1) e_okR 56) n_68_56
theorem t_68_53 : e_Sn 68 53 (e_un n_68_53) := u_oldT (s_putf (ty0 := ey_12) (ok := e_okR) (C := er_12) (T := et_12) (N := 5) (ref := "PlateroomprinterModel") (index := 10) (ci := 12) (k := 1) hq_68 ho_68 ⟨rfl, by decide, ei_12, (List.mem_of_getElem? (i := 1959) (by decide +kernel)), .inl rfl⟩ eo_12 en_12 e_oksR (.inl rfl) (by decide +kernel) rfl : e_Sn 68 53 (o_putf (e_f1 12 1) e_okR 56)) t_68_56 (e_cg_putf (e_f1 12 1) e_okR)
noncomputable def n_68_52 : e_Y := u_ld f_okA f_l1 n_68_53
theorem t_68_52 : e_Sn 68 52 (e_un n_68_52) := u_ldAT f_l1_eq (s_aload (i := .aload_n 1) (len := 1) hq_68 (by decide +kernel) rfl (.inr ⟨1, rfl, rfl, rfl⟩) : e_Sn 68 52 (o_load e_okR 1 53)) t_68_53
noncomputable def n_68_51 : e_Y := u_ld f_okA f_l0 n_68_52
theorem t_68_51 : e_Sn 68 51 (e_un n_68_51) := u_ldAT f_l0_eq (s_aload (i := .aload_n 0) (len := 1) hq_68 (by decide +kernel) rfl (.inr ⟨0, rfl, rfl, rfl⟩) : e_Sn 68 51 (o_load e_okR 0 52)) t_68_52
noncomputable def n_68_30 : e_Y := n_68_51
theorem t_68_30 : e_Sn 68 30 (e_un n_68_30) := u_gotoT (s_goto (off := (21)) hq_68 (by decide +kernel) rfl : e_Sn 68 30 (o_goto 51)) t_68_51
noncomputable def n_68_27 : e_Y := u_callV 16 77 2 21 1 n_77_0 n_68_30
theorem t_68_27 : e_Sn 68 27 (e_un n_68_27) := u_callVT rfl (s_callV (ci := 16) (C := er_16) (T := et_16) (N := 5) (index := 166) hq_68 ho_68 hy_77 hp_77 hc_77 hi_77 hd_77 (List.mem_of_getElem? (i := 2168) (by decide +kernel)) hs_77 (List.mem_of_getElem? (i := 2170) (by decide +kernel)) rfl (by decide +kernel) rfl : e_Sn 68 27 (o_callV (e_s1 16 77 2) 1 30)) t_77_0 t_68_30
noncomputable def n_68_26 : e_Y := u_ld f_okA f_l2 n_68_27
theorem t_68_26 : e_Sn 68 26 (e_un n_68_26) := u_ldAT f_l2_eq (s_aload (i := .aload_n 2) (len := 1) hq_68 (by decide +kernel) rfl (.inr ⟨2, rfl, rfl, rfl⟩) : e_Sn 68 26 (o_load e_okR 2 27)) t_68_27
noncomputable def n_68_25 : e_Y := u_st f_okA f_s2 n_68_26
theorem t_68_25 : e_Sn 68 25 (e_un n_68_25) := u_stAT (fun _ _ _ => f_s2_eq) (s_astore (i := .astore_n 2) (len := 1) hq_68 (by decide +kernel) rfl (.inr ⟨2, rfl, rfl, rfl⟩) : e_Sn 68 25 (o_store e_okR 2 26)) t_68_26
noncomputable def n_68_22 : e_Y := u_tab (o_callI 76 3 3 25)
theorem t_68_22 : e_Sn 68 22 (e_un n_68_22) := u_tabT (s_callI (index := 163) hq_68 ho_68 hy_76 hp_76 hc_76 hi_76 hd_76 (List.mem_of_getElem? (i := 2110) (by decide +kernel)) rfl rfl hs_76 (by decide +kernel) rfl : e_Sn 68 22 (o_callI 76 3 3 25))
noncomputable def n_68_19 : e_Y := u_getf 12 2 (u_old (o_getf (e_f1 12 2) 22) n_68_22) n_68_22
theorem t_68_19 : e_Sn 68 19 (e_un n_68_19) := u_getfT (s_getf (C := er_12) (T := et_12) (N := 5) (ref := "PlateroomprinterModel") (index := 19) (ci := 12) (k := 2) hq_68 ho_68 ⟨rfl, by decide, ei_12, (List.mem_of_getElem? (i := 1960) (by decide +kernel)), .inl rfl⟩ (by decide +kernel) rfl : e_Sn 68 19 (o_getf (e_f1 12 2) 22)) t_68_22
noncomputable def n_68_18 : e_Y := u_ld f_okA f_l0 n_68_19
theorem t_68_18 : e_Sn 68 18 (e_un n_68_18) := u_ldAT f_l0_eq (s_aload (i := .aload_n 0) (len := 1) hq_68 (by decide +kernel) rfl (.inr ⟨0, rfl, rfl, rfl⟩) : e_Sn 68 18 (o_load e_okR 0 19)) t_68_19
noncomputable def n_68_17 : e_Y := u_ld f_okA f_l1 n_68_18
theorem t_68_17 : e_Sn 68 17 (e_un n_68_17) := u_ldAT f_l1_eq (s_aload (i := .aload_n 1) (len := 1) hq_68 (by decide +kernel) rfl (.inr ⟨1, rfl, rfl, rfl⟩) : e_Sn 68 17 (o_load e_okR 1 18)) t_68_18
noncomputable def n_68_16 : e_Y := u_old (o_dup 17) n_68_17
theorem t_68_16 : e_Sn 68 16 (e_un n_68_16) := u_oldT (s_dup hq_68 (by decide +kernel) rfl : e_Sn 68 16 (o_dup 17)) t_68_17 e_cg_dup
noncomputable def n_68_13 : e_Y := u_tab (o_new 16 5 ef_16 16)
theorem t_68_13 : e_Sn 68 13 (e_un n_68_13) := u_tabT (s_new (index := 161) (ci := 16) (N := 5) (C := er_16) (T := et_16) (ty0 := ey_16) (fv := eg_16) hq_68 ho_68 rfl ei_16 eo_16 (List.mem_of_getElem? (i := 2108) (by decide +kernel)) (List.mem_of_getElem? (i := 2109) (by decide +kernel)) (List.mem_of_getElem? (i := 170) (by decide +kernel)) eh_16 rfl (e_newrel ek_16) (by decide +kernel) rfl : e_Sn 68 13 (o_new 16 5 ef_16 16))
noncomputable def n_68_12 : e_Y := u_st f_okA f_s1 n_68_13
theorem t_68_12 : e_Sn 68 12 (e_un n_68_12) := u_stAT (fun _ _ _ => f_s1_eq) (s_astore (i := .astore_n 1) (len := 1) hq_68 (by decide +kernel) rfl (.inr ⟨1, rfl, rfl, rfl⟩) : e_Sn 68 12 (o_store e_okR 1 13)) t_68_13
noncomputable def n_68_9 : e_Y := u_callV 14 73 3 22 1 n_73_0 n_68_12
theorem t_68_9 : e_Sn 68 9 (e_un n_68_9) := u_callVT rfl (s_callV (ci := 14) (C := er_14) (T := et_14) (N := 13) (index := 158) hq_68 ho_68 hy_73 hp_73 hc_73 hi_73 hd_73 (List.mem_of_getElem? (i := 2042) (by decide +kernel)) hs_73 (List.mem_of_getElem? (i := 2044) (by decide +kernel)) rfl (by decide +kernel) rfl : e_Sn 68 9 (o_callV (e_s1 14 73 3) 1 12)) t_73_0 t_68_12
noncomputable def n_68_6 : e_Y := u_getf 12 1 (u_old (o_getf (e_f1 12 1) 9) n_68_9) n_68_9
theorem t_68_6 : e_Sn 68 6 (e_un n_68_6) := u_getfT (s_getf (C := er_12) (T := et_12) (N := 5) (ref := "PlateroomprinterModel") (index := 10) (ci := 12) (k := 1) hq_68 ho_68 ⟨rfl, by decide, ei_12, (List.mem_of_getElem? (i := 1959) (by decide +kernel)), .inl rfl⟩ (by decide +kernel) rfl : e_Sn 68 6 (o_getf (e_f1 12 1) 9)) t_68_9
noncomputable def n_68_5 : e_Y := u_ld f_okA f_l0 n_68_6
theorem t_68_5 : e_Sn 68 5 (e_un n_68_5) := u_ldAT f_l0_eq (s_aload (i := .aload_n 0) (len := 1) hq_68 (by decide +kernel) rfl (.inr ⟨0, rfl, rfl, rfl⟩) : e_Sn 68 5 (o_load e_okR 0 6)) t_68_6
noncomputable def n_68_2 : e_Y := u_old (o_putf (e_f1 12 0) e_okI 5) n_68_5
theorem t_68_2 : e_Sn 68 2 (e_un n_68_2) := u_oldT (s_putf (ty0 := ey_12) (ok := e_okI) (C := er_12) (T := et_12) (N := 5) (ref := "PlateroomprinterModel") (index := 124) (ci := 12) (k := 0) hq_68 ho_68 ⟨rfl, by decide, ei_12, (List.mem_of_getElem? (i := 1958) (by decide +kernel)), .inl rfl⟩ eo_12 en_12 e_oksI (.inl rfl) (by decide +kernel) rfl : e_Sn 68 2 (o_putf (e_f1 12 0) e_okI 5)) t_68_5 (e_cg_putf (e_f1 12 0) e_okI)
noncomputable def n_68_1 : e_Y := u_push (.inl 2147483648) n_68_2
theorem t_68_1 : e_Sn 68 1 (e_un n_68_1) := u_pushT (s_iconst (n := (0)) hq_68 (by decide +kernel) rfl ⟨by decide +kernel, by decide +kernel⟩ : e_Sn 68 1 (o_push (.inl 2147483648) 2)) t_68_2
noncomputable def n_68_0 : e_Y := u_ld f_okA f_l0 n_68_1
theorem t_68_0 : e_Sn 68 0 (e_un n_68_0) := u_ldAT f_l0_eq (s_aload (i := .aload_n 0) (len := 1) hq_68 (by decide +kernel) rfl (.inr ⟨0, rfl, rfl, rfl⟩) : e_Sn 68 0 (o_load e_okR 0 1)) t_68_1
noncomputable def e_tb_68 : e_X := (e_br 25 (e_br 16 (e_lf 0 (e_un n_68_0)) (e_lf 16 (e_un n_68_16))) (e_br 60 (e_lf 25 (e_un n_68_25)) (e_br 64 (e_lf 60 (e_un n_68_60)) (e_lf 64 (e_un n_68_64)))))
theorem e_tk_68 : e_Tb 68 e_tb_68 := (e_brT (e_brT (e_lfT t_68_0) (e_lfT t_68_16)) (e_brT (e_lfT t_68_25) (e_brT (e_lfT t_68_60) (e_lfT t_68_64))))
theorem hq_69 : (e_ml[69]?).map (·.2.1) = some prog_14_method_24_code := rfl
theorem ho_69 : (e_ml[69]?).map (·.1.cls) = some "PlateroomprinterModel" := rfl
theorem hr_69 : (e_ml[69]?).map (·.2.2.2) = some (some .boolean) := rfl
noncomputable def n_69_11 : e_Y := u_tab (o_ret e_okZ)
theorem t_69_11 : e_Sn 69 11 (e_un n_69_11) := u_tabT (s_zret hq_69 hr_69 (by decide +kernel) : e_Sn 69 11 (o_ret e_okZ))
noncomputable def n_69_8 : e_Y := u_callV 12 67 3 22 3 n_67_0 n_69_11
theorem t_69_8 : e_Sn 69 8 (e_un n_69_8) := u_callVT rfl (s_callV (ci := 12) (C := er_12) (T := et_12) (N := 5) (index := 128) hq_69 ho_69 hy_67 hp_67 hc_67 hi_67 hd_67 (List.mem_of_getElem? (i := 1996) (by decide +kernel)) hs_67 (List.mem_of_getElem? (i := 74) (by decide +kernel)) rfl (by decide +kernel) rfl : e_Sn 69 8 (o_callV (e_s1 12 67 3) 3 11)) t_67_0 t_69_11
noncomputable def n_69_7 : e_Y := u_ld f_okI f_l2 n_69_8
theorem t_69_7 : e_Sn 69 7 (e_un n_69_7) := u_ldIT f_l2_eq (s_iload (i := .iload_n 2) (len := 1) hq_69 (by decide +kernel) rfl (.inr ⟨2, rfl, rfl, rfl⟩) : e_Sn 69 7 (o_load e_okI 2 8)) t_69_8
noncomputable def n_69_6 : e_Y := u_ld f_okI f_l1 n_69_7
theorem t_69_6 : e_Sn 69 6 (e_un n_69_6) := u_ldIT f_l1_eq (s_iload (i := .iload_n 1) (len := 1) hq_69 (by decide +kernel) rfl (.inr ⟨1, rfl, rfl, rfl⟩) : e_Sn 69 6 (o_load e_okI 1 7)) t_69_7
noncomputable def n_69_5 : e_Y := u_ld f_okA f_l0 n_69_6
theorem t_69_5 : e_Sn 69 5 (e_un n_69_5) := u_ldAT f_l0_eq (s_aload (i := .aload_n 0) (len := 1) hq_69 (by decide +kernel) rfl (.inr ⟨0, rfl, rfl, rfl⟩) : e_Sn 69 5 (o_load e_okR 0 6)) t_69_6
noncomputable def n_69_2 : e_Y := u_old (o_putf (e_f1 12 0) e_okI 5) n_69_5
theorem t_69_2 : e_Sn 69 2 (e_un n_69_2) := u_oldT (s_putf (ty0 := ey_12) (ok := e_okI) (C := er_12) (T := et_12) (N := 5) (ref := "PlateroomprinterModel") (index := 124) (ci := 12) (k := 0) hq_69 ho_69 ⟨rfl, by decide, ei_12, (List.mem_of_getElem? (i := 1958) (by decide +kernel)), .inl rfl⟩ eo_12 en_12 e_oksI (.inl rfl) (by decide +kernel) rfl : e_Sn 69 2 (o_putf (e_f1 12 0) e_okI 5)) t_69_5 (e_cg_putf (e_f1 12 0) e_okI)
noncomputable def n_69_1 : e_Y := u_push (.inl 2147483648) n_69_2
theorem t_69_1 : e_Sn 69 1 (e_un n_69_1) := u_pushT (s_iconst (n := (0)) hq_69 (by decide +kernel) rfl ⟨by decide +kernel, by decide +kernel⟩ : e_Sn 69 1 (o_push (.inl 2147483648) 2)) t_69_2
noncomputable def n_69_0 : e_Y := u_ld f_okA f_l0 n_69_1
theorem t_69_0 : e_Sn 69 0 (e_un n_69_0) := u_ldAT f_l0_eq (s_aload (i := .aload_n 0) (len := 1) hq_69 (by decide +kernel) rfl (.inr ⟨0, rfl, rfl, rfl⟩) : e_Sn 69 0 (o_load e_okR 0 1)) t_69_1
noncomputable def e_tb_69 : e_X := (e_lf 0 (e_un n_69_0))
theorem e_tk_69 : e_Tb 69 e_tb_69 := (e_lfT t_69_0)
theorem hq_70 : (e_ml[70]?).map (·.2.1) = some prog_14_method_27_code := rfl
theorem ho_70 : (e_ml[70]?).map (·.1.cls) = some "PlateroomprinterModel" := rfl
theorem hr_70 : (e_ml[70]?).map (·.2.2.2) = some (some .int) := rfl
noncomputable def n_70_139 : e_Y := u_retI
theorem t_70_139 : e_Sn 70 139 (e_un n_70_139) := u_retIT (s_iret hq_70 hr_70 (by decide +kernel) : e_Sn 70 139 (o_ret e_okI))
noncomputable def n_70_136 : e_Y := u_callV 19 113 1 20 1 n_113_0 n_70_139
theorem t_70_136 : e_Sn 70 136 (e_un n_70_136) := u_callVT rfl (s_callV (ci := 19) (C := er_19) (T := et_19) (N := 3) (index := 74) hq_70 ho_70 hy_113 hp_113 hc_113 hi_113 hd_113 (List.mem_of_getElem? (i := 2000) (by decide +kernel)) hs_113 (List.mem_of_getElem? (i := 2002) (by decide +kernel)) rfl (by decide +kernel) rfl : e_Sn 70 136 (o_callV (e_s1 19 113 1) 1 139)) t_113_0 t_70_139
noncomputable def n_70_133 : e_Y := u_getf 12 2 (u_old (o_getf (e_f1 12 2) 136) n_70_136) n_70_136
theorem t_70_133 : e_Sn 70 133 (e_un n_70_133) := u_getfT (s_getf (C := er_12) (T := et_12) (N := 5) (ref := "PlateroomprinterModel") (index := 19) (ci := 12) (k := 2) hq_70 ho_70 ⟨rfl, by decide, ei_12, (List.mem_of_getElem? (i := 1960) (by decide +kernel)), .inl rfl⟩ (by decide +kernel) rfl : e_Sn 70 133 (o_getf (e_f1 12 2) 136)) t_70_136
noncomputable def n_70_132 : e_Y := u_ld f_okA f_l0 n_70_133
theorem t_70_132 : e_Sn 70 132 (e_un n_70_132) := u_ldAT f_l0_eq (s_aload (i := .aload_n 0) (len := 1) hq_70 (by decide +kernel) rfl (.inr ⟨0, rfl, rfl, rfl⟩) : e_Sn 70 132 (o_load e_okR 0 133)) t_70_133
noncomputable def n_70_131 : e_Y := u_pop n_70_132
theorem t_70_131 : e_Sn 70 131 (e_un n_70_131) := u_popT (s_pop hq_70 (by decide +kernel) rfl : e_Sn 70 131 (o_pop 132)) t_70_132
noncomputable def n_70_128 : e_Y := u_callV 19 103 2 21 2 n_103_0 n_70_131
theorem t_70_128 : e_Sn 70 128 (e_un n_70_128) := u_callVT rfl (s_callV (ci := 19) (C := er_19) (T := et_19) (N := 3) (index := 88) hq_70 ho_70 hy_103 hp_103 hc_103 hi_103 hd_103 (List.mem_of_getElem? (i := 2004) (by decide +kernel)) hs_103 (List.mem_of_getElem? (i := 1822) (by decide +kernel)) rfl (by decide +kernel) rfl : e_Sn 70 128 (o_callV (e_s1 19 103 2) 2 131)) t_103_0 t_70_131
noncomputable def n_70_127 : e_Y := u_old (o_ast 0 e_okI 128) n_70_128
theorem t_70_127 : e_Sn 70 127 (e_un n_70_127) := u_oldT (s_iast hq_70 (by decide +kernel) rfl : e_Sn 70 127 (o_ast 0 e_okI 128)) t_70_128 (e_cg_ast 0 e_okI)
noncomputable def n_70_125 : e_Y := u_ld f_okI f_l6 n_70_127
theorem t_70_125 : e_Sn 70 125 (e_un n_70_125) := u_ldIT f_l6_eq (s_iload (i := .iload 6) (len := 2) hq_70 (by decide +kernel) rfl (.inl ⟨rfl, rfl⟩) : e_Sn 70 125 (o_load e_okI 6 127)) t_70_127
noncomputable def n_70_124 : e_Y := u_push (.inl 2147483649) n_70_125
theorem t_70_124 : e_Sn 70 124 (e_un n_70_124) := u_pushT (s_iconst (n := (1)) hq_70 (by decide +kernel) rfl ⟨by decide +kernel, by decide +kernel⟩ : e_Sn 70 124 (o_push (.inl 2147483649) 125)) t_70_125
noncomputable def n_70_123 : e_Y := u_old (o_dup 124) n_70_124
theorem t_70_123 : e_Sn 70 123 (e_un n_70_123) := u_oldT (s_dup hq_70 (by decide +kernel) rfl : e_Sn 70 123 (o_dup 124)) t_70_124 e_cg_dup
noncomputable def n_70_122 : e_Y := u_old (o_ast 0 e_okI 123) n_70_123
theorem t_70_122 : e_Sn 70 122 (e_un n_70_122) := u_oldT (s_iast hq_70 (by decide +kernel) rfl : e_Sn 70 122 (o_ast 0 e_okI 123)) t_70_123 (e_cg_ast 0 e_okI)
noncomputable def n_70_120 : e_Y := u_ld f_okI f_l5 n_70_122
theorem t_70_120 : e_Sn 70 120 (e_un n_70_120) := u_ldIT f_l5_eq (s_iload (i := .iload 5) (len := 2) hq_70 (by decide +kernel) rfl (.inl ⟨rfl, rfl⟩) : e_Sn 70 120 (o_load e_okI 5 122)) t_70_122
noncomputable def n_70_119 : e_Y := u_push (.inl 2147483648) n_70_120
theorem t_70_119 : e_Sn 70 119 (e_un n_70_119) := u_pushT (s_iconst (n := (0)) hq_70 (by decide +kernel) rfl ⟨by decide +kernel, by decide +kernel⟩ : e_Sn 70 119 (o_push (.inl 2147483648) 120)) t_70_120
noncomputable def n_70_118 : e_Y := u_old (o_dup 119) n_70_119
theorem t_70_118 : e_Sn 70 118 (e_un n_70_118) := u_oldT (s_dup hq_70 (by decide +kernel) rfl : e_Sn 70 118 (o_dup 119)) t_70_119 e_cg_dup
noncomputable def n_70_116 : e_Y := u_tab (o_newa 0 (e_I 2147483648) 118)
theorem t_70_116 : e_Sn 70 116 (e_un n_70_116) := u_tabT (s_newI (List.mem_of_getElem? (i := 215) (by decide +kernel)) hq_70 (by decide +kernel) rfl : e_Sn 70 116 (o_newa 0 (e_I 2147483648) 118))
noncomputable def n_70_115 : e_Y := u_push (.inl 2147483650) n_70_116
theorem t_70_115 : e_Sn 70 115 (e_un n_70_115) := u_pushT (s_iconst (n := (2)) hq_70 (by decide +kernel) rfl ⟨by decide +kernel, by decide +kernel⟩ : e_Sn 70 115 (o_push (.inl 2147483650) 116)) t_70_116
noncomputable def n_70_112 : e_Y := u_getf 12 2 (u_old (o_getf (e_f1 12 2) 115) n_70_115) n_70_115
theorem t_70_112 : e_Sn 70 112 (e_un n_70_112) := u_getfT (s_getf (C := er_12) (T := et_12) (N := 5) (ref := "PlateroomprinterModel") (index := 19) (ci := 12) (k := 2) hq_70 ho_70 ⟨rfl, by decide, ei_12, (List.mem_of_getElem? (i := 1960) (by decide +kernel)), .inl rfl⟩ (by decide +kernel) rfl : e_Sn 70 112 (o_getf (e_f1 12 2) 115)) t_70_115
noncomputable def n_70_111 : e_Y := u_ld f_okA f_l0 n_70_112
theorem t_70_111 : e_Sn 70 111 (e_un n_70_111) := u_ldAT f_l0_eq (s_aload (i := .aload_n 0) (len := 1) hq_70 (by decide +kernel) rfl (.inr ⟨0, rfl, rfl, rfl⟩) : e_Sn 70 111 (o_load e_okR 0 112)) t_70_112
noncomputable def n_70_110 : e_Y := u_pop n_70_111
theorem t_70_110 : e_Sn 70 110 (e_un n_70_110) := u_popT (s_pop hq_70 (by decide +kernel) rfl : e_Sn 70 110 (o_pop 111)) t_70_111
noncomputable def n_70_107 : e_Y := u_callV 19 103 2 21 2 n_103_0 n_70_110
theorem t_70_107 : e_Sn 70 107 (e_un n_70_107) := u_callVT rfl (s_callV (ci := 19) (C := er_19) (T := et_19) (N := 3) (index := 88) hq_70 ho_70 hy_103 hp_103 hc_103 hi_103 hd_103 (List.mem_of_getElem? (i := 2004) (by decide +kernel)) hs_103 (List.mem_of_getElem? (i := 1822) (by decide +kernel)) rfl (by decide +kernel) rfl : e_Sn 70 107 (o_callV (e_s1 19 103 2) 2 110)) t_103_0 t_70_110
noncomputable def n_70_106 : e_Y := u_old (o_ast 0 e_okI 107) n_70_107
theorem t_70_106 : e_Sn 70 106 (e_un n_70_106) := u_oldT (s_iast hq_70 (by decide +kernel) rfl : e_Sn 70 106 (o_ast 0 e_okI 107)) t_70_107 (e_cg_ast 0 e_okI)
noncomputable def n_70_104 : e_Y := u_ld f_okI f_l4 n_70_106
theorem t_70_104 : e_Sn 70 104 (e_un n_70_104) := u_ldIT f_l4_eq (s_iload (i := .iload 4) (len := 2) hq_70 (by decide +kernel) rfl (.inl ⟨rfl, rfl⟩) : e_Sn 70 104 (o_load e_okI 4 106)) t_70_106
noncomputable def n_70_103 : e_Y := u_push (.inl 2147483649) n_70_104
theorem t_70_103 : e_Sn 70 103 (e_un n_70_103) := u_pushT (s_iconst (n := (1)) hq_70 (by decide +kernel) rfl ⟨by decide +kernel, by decide +kernel⟩ : e_Sn 70 103 (o_push (.inl 2147483649) 104)) t_70_104
noncomputable def n_70_102 : e_Y := u_old (o_dup 103) n_70_103
theorem t_70_102 : e_Sn 70 102 (e_un n_70_102) := u_oldT (s_dup hq_70 (by decide +kernel) rfl : e_Sn 70 102 (o_dup 103)) t_70_103 e_cg_dup
noncomputable def n_70_101 : e_Y := u_old (o_ast 0 e_okI 102) n_70_102
theorem t_70_101 : e_Sn 70 101 (e_un n_70_101) := u_oldT (s_iast hq_70 (by decide +kernel) rfl : e_Sn 70 101 (o_ast 0 e_okI 102)) t_70_102 (e_cg_ast 0 e_okI)
noncomputable def n_70_100 : e_Y := u_ld f_okI f_l3 n_70_101
theorem t_70_100 : e_Sn 70 100 (e_un n_70_100) := u_ldIT f_l3_eq (s_iload (i := .iload_n 3) (len := 1) hq_70 (by decide +kernel) rfl (.inr ⟨3, rfl, rfl, rfl⟩) : e_Sn 70 100 (o_load e_okI 3 101)) t_70_101
noncomputable def n_70_99 : e_Y := u_push (.inl 2147483648) n_70_100
theorem t_70_99 : e_Sn 70 99 (e_un n_70_99) := u_pushT (s_iconst (n := (0)) hq_70 (by decide +kernel) rfl ⟨by decide +kernel, by decide +kernel⟩ : e_Sn 70 99 (o_push (.inl 2147483648) 100)) t_70_100
noncomputable def n_70_98 : e_Y := u_old (o_dup 99) n_70_99
theorem t_70_98 : e_Sn 70 98 (e_un n_70_98) := u_oldT (s_dup hq_70 (by decide +kernel) rfl : e_Sn 70 98 (o_dup 99)) t_70_99 e_cg_dup
noncomputable def n_70_96 : e_Y := u_tab (o_newa 0 (e_I 2147483648) 98)
theorem t_70_96 : e_Sn 70 96 (e_un n_70_96) := u_tabT (s_newI (List.mem_of_getElem? (i := 215) (by decide +kernel)) hq_70 (by decide +kernel) rfl : e_Sn 70 96 (o_newa 0 (e_I 2147483648) 98))
noncomputable def n_70_95 : e_Y := u_push (.inl 2147483650) n_70_96
theorem t_70_95 : e_Sn 70 95 (e_un n_70_95) := u_pushT (s_iconst (n := (2)) hq_70 (by decide +kernel) rfl ⟨by decide +kernel, by decide +kernel⟩ : e_Sn 70 95 (o_push (.inl 2147483650) 96)) t_70_96
noncomputable def n_70_92 : e_Y := u_getf 12 2 (u_old (o_getf (e_f1 12 2) 95) n_70_95) n_70_95
theorem t_70_92 : e_Sn 70 92 (e_un n_70_92) := u_getfT (s_getf (C := er_12) (T := et_12) (N := 5) (ref := "PlateroomprinterModel") (index := 19) (ci := 12) (k := 2) hq_70 ho_70 ⟨rfl, by decide, ei_12, (List.mem_of_getElem? (i := 1960) (by decide +kernel)), .inl rfl⟩ (by decide +kernel) rfl : e_Sn 70 92 (o_getf (e_f1 12 2) 95)) t_70_95
noncomputable def n_70_91 : e_Y := u_ld f_okA f_l0 n_70_92
theorem t_70_91 : e_Sn 70 91 (e_un n_70_91) := u_ldAT f_l0_eq (s_aload (i := .aload_n 0) (len := 1) hq_70 (by decide +kernel) rfl (.inr ⟨0, rfl, rfl, rfl⟩) : e_Sn 70 91 (o_load e_okR 0 92)) t_70_92
noncomputable def n_70_90 : e_Y := u_pop n_70_91
theorem t_70_90 : e_Sn 70 90 (e_un n_70_90) := u_popT (s_pop hq_70 (by decide +kernel) rfl : e_Sn 70 90 (o_pop 91)) t_70_91
noncomputable def n_70_87 : e_Y := u_callV 19 103 2 21 2 n_103_0 n_70_90
theorem t_70_87 : e_Sn 70 87 (e_un n_70_87) := u_callVT rfl (s_callV (ci := 19) (C := er_19) (T := et_19) (N := 3) (index := 88) hq_70 ho_70 hy_103 hp_103 hc_103 hi_103 hd_103 (List.mem_of_getElem? (i := 2004) (by decide +kernel)) hs_103 (List.mem_of_getElem? (i := 1822) (by decide +kernel)) rfl (by decide +kernel) rfl : e_Sn 70 87 (o_callV (e_s1 19 103 2) 2 90)) t_103_0 t_70_90
noncomputable def n_70_86 : e_Y := u_old (o_ast 0 e_okI 87) n_70_87
theorem t_70_86 : e_Sn 70 86 (e_un n_70_86) := u_oldT (s_iast hq_70 (by decide +kernel) rfl : e_Sn 70 86 (o_ast 0 e_okI 87)) t_70_87 (e_cg_ast 0 e_okI)
noncomputable def n_70_85 : e_Y := u_ld f_okI f_l2 n_70_86
theorem t_70_85 : e_Sn 70 85 (e_un n_70_85) := u_ldIT f_l2_eq (s_iload (i := .iload_n 2) (len := 1) hq_70 (by decide +kernel) rfl (.inr ⟨2, rfl, rfl, rfl⟩) : e_Sn 70 85 (o_load e_okI 2 86)) t_70_86
noncomputable def n_70_84 : e_Y := u_push (.inl 2147483649) n_70_85
theorem t_70_84 : e_Sn 70 84 (e_un n_70_84) := u_pushT (s_iconst (n := (1)) hq_70 (by decide +kernel) rfl ⟨by decide +kernel, by decide +kernel⟩ : e_Sn 70 84 (o_push (.inl 2147483649) 85)) t_70_85
noncomputable def n_70_83 : e_Y := u_old (o_dup 84) n_70_84
theorem t_70_83 : e_Sn 70 83 (e_un n_70_83) := u_oldT (s_dup hq_70 (by decide +kernel) rfl : e_Sn 70 83 (o_dup 84)) t_70_84 e_cg_dup
noncomputable def n_70_82 : e_Y := u_old (o_ast 0 e_okI 83) n_70_83
theorem t_70_82 : e_Sn 70 82 (e_un n_70_82) := u_oldT (s_iast hq_70 (by decide +kernel) rfl : e_Sn 70 82 (o_ast 0 e_okI 83)) t_70_83 (e_cg_ast 0 e_okI)
noncomputable def n_70_81 : e_Y := u_ld f_okI f_l1 n_70_82
theorem t_70_81 : e_Sn 70 81 (e_un n_70_81) := u_ldIT f_l1_eq (s_iload (i := .iload_n 1) (len := 1) hq_70 (by decide +kernel) rfl (.inr ⟨1, rfl, rfl, rfl⟩) : e_Sn 70 81 (o_load e_okI 1 82)) t_70_82
noncomputable def n_70_80 : e_Y := u_push (.inl 2147483648) n_70_81
theorem t_70_80 : e_Sn 70 80 (e_un n_70_80) := u_pushT (s_iconst (n := (0)) hq_70 (by decide +kernel) rfl ⟨by decide +kernel, by decide +kernel⟩ : e_Sn 70 80 (o_push (.inl 2147483648) 81)) t_70_81
noncomputable def n_70_79 : e_Y := u_old (o_dup 80) n_70_80
theorem t_70_79 : e_Sn 70 79 (e_un n_70_79) := u_oldT (s_dup hq_70 (by decide +kernel) rfl : e_Sn 70 79 (o_dup 80)) t_70_80 e_cg_dup
noncomputable def n_70_77 : e_Y := u_tab (o_newa 0 (e_I 2147483648) 79)
theorem t_70_77 : e_Sn 70 77 (e_un n_70_77) := u_tabT (s_newI (List.mem_of_getElem? (i := 215) (by decide +kernel)) hq_70 (by decide +kernel) rfl : e_Sn 70 77 (o_newa 0 (e_I 2147483648) 79))
noncomputable def n_70_76 : e_Y := u_push (.inl 2147483650) n_70_77
theorem t_70_76 : e_Sn 70 76 (e_un n_70_76) := u_pushT (s_iconst (n := (2)) hq_70 (by decide +kernel) rfl ⟨by decide +kernel, by decide +kernel⟩ : e_Sn 70 76 (o_push (.inl 2147483650) 77)) t_70_77
noncomputable def n_70_73 : e_Y := u_getf 12 2 (u_old (o_getf (e_f1 12 2) 76) n_70_76) n_70_76
theorem t_70_73 : e_Sn 70 73 (e_un n_70_73) := u_getfT (s_getf (C := er_12) (T := et_12) (N := 5) (ref := "PlateroomprinterModel") (index := 19) (ci := 12) (k := 2) hq_70 ho_70 ⟨rfl, by decide, ei_12, (List.mem_of_getElem? (i := 1960) (by decide +kernel)), .inl rfl⟩ (by decide +kernel) rfl : e_Sn 70 73 (o_getf (e_f1 12 2) 76)) t_70_76
noncomputable def n_70_72 : e_Y := u_ld f_okA f_l0 n_70_73
theorem t_70_72 : e_Sn 70 72 (e_un n_70_72) := u_ldAT f_l0_eq (s_aload (i := .aload_n 0) (len := 1) hq_70 (by decide +kernel) rfl (.inr ⟨0, rfl, rfl, rfl⟩) : e_Sn 70 72 (o_load e_okR 0 73)) t_70_73
noncomputable def n_70_67 : e_Y := u_if y_ne0 (u_old2 (o_ifeq 72 70) 72 n_70_72 (u_at 70)) n_70_72 (u_at 70)
theorem t_70_67 : e_Sn 70 67 (e_un n_70_67) := u_ifeqT rfl (s_ifeq (off := (5)) hq_70 (by decide +kernel) rfl rfl : e_Sn 70 67 (o_ifeq 72 70)) t_70_72 u_atT
noncomputable def n_70_64 : e_Y := u_callV 12 67 3 22 3 n_67_0 n_70_67
theorem t_70_64 : e_Sn 70 64 (e_un n_70_64) := u_callVT rfl (s_callV (ci := 12) (C := er_12) (T := et_12) (N := 5) (index := 128) hq_70 ho_70 hy_67 hp_67 hc_67 hi_67 hd_67 (List.mem_of_getElem? (i := 1996) (by decide +kernel)) hs_67 (List.mem_of_getElem? (i := 74) (by decide +kernel)) rfl (by decide +kernel) rfl : e_Sn 70 64 (o_callV (e_s1 12 67 3) 3 67)) t_67_0 t_70_67
noncomputable def n_70_63 : e_Y := u_push (.inl 2147483650) n_70_64
theorem t_70_63 : e_Sn 70 63 (e_un n_70_63) := u_pushT (s_iconst (n := (2)) hq_70 (by decide +kernel) rfl ⟨by decide +kernel, by decide +kernel⟩ : e_Sn 70 63 (o_push (.inl 2147483650) 64)) t_70_64
noncomputable def n_70_62 : e_Y := u_push (.inl 2147483648) n_70_63
theorem t_70_62 : e_Sn 70 62 (e_un n_70_62) := u_pushT (s_iconst (n := (0)) hq_70 (by decide +kernel) rfl ⟨by decide +kernel, by decide +kernel⟩ : e_Sn 70 62 (o_push (.inl 2147483648) 63)) t_70_63
noncomputable def n_70_55 : e_Y := u_jmp y_le (u_old2 (o_cgt 58 62) 58 (u_at 58) n_70_62) (u_at 58) n_70_62
theorem t_70_55 : e_Sn 70 55 (e_un n_70_55) := u_cgtT rfl (s_cle (off := (7)) hq_70 (by decide +kernel) rfl rfl : e_Sn 70 55 (o_cgt 58 62)) u_atT t_70_62
noncomputable def n_70_52 : e_Y := u_push (.inl 2147484045) n_70_55
theorem t_70_52 : e_Sn 70 52 (e_un n_70_52) := u_pushT (s_sipush (n := (397)) hq_70 (by decide +kernel) rfl ⟨by decide +kernel, by decide +kernel⟩ : e_Sn 70 52 (o_push (.inl 2147484045) 55)) t_70_55
noncomputable def n_70_49 : e_Y := u_callV 19 113 1 20 1 n_113_0 n_70_52
theorem t_70_49 : e_Sn 70 49 (e_un n_70_49) := u_callVT rfl (s_callV (ci := 19) (C := er_19) (T := et_19) (N := 3) (index := 74) hq_70 ho_70 hy_113 hp_113 hc_113 hi_113 hd_113 (List.mem_of_getElem? (i := 2000) (by decide +kernel)) hs_113 (List.mem_of_getElem? (i := 2002) (by decide +kernel)) rfl (by decide +kernel) rfl : e_Sn 70 49 (o_callV (e_s1 19 113 1) 1 52)) t_113_0 t_70_52
noncomputable def n_70_46 : e_Y := u_getf 12 2 (u_old (o_getf (e_f1 12 2) 49) n_70_49) n_70_49
theorem t_70_46 : e_Sn 70 46 (e_un n_70_46) := u_getfT (s_getf (C := er_12) (T := et_12) (N := 5) (ref := "PlateroomprinterModel") (index := 19) (ci := 12) (k := 2) hq_70 ho_70 ⟨rfl, by decide, ei_12, (List.mem_of_getElem? (i := 1960) (by decide +kernel)), .inl rfl⟩ (by decide +kernel) rfl : e_Sn 70 46 (o_getf (e_f1 12 2) 49)) t_70_49
noncomputable def n_70_45 : e_Y := u_ld f_okA f_l0 n_70_46
theorem t_70_45 : e_Sn 70 45 (e_un n_70_45) := u_ldAT f_l0_eq (s_aload (i := .aload_n 0) (len := 1) hq_70 (by decide +kernel) rfl (.inr ⟨0, rfl, rfl, rfl⟩) : e_Sn 70 45 (o_load e_okR 0 46)) t_70_46
noncomputable def n_70_44 : e_Y := u_ld f_okA f_l0 n_70_45
theorem t_70_44 : e_Sn 70 44 (e_un n_70_44) := u_ldAT f_l0_eq (s_aload (i := .aload_n 0) (len := 1) hq_70 (by decide +kernel) rfl (.inr ⟨0, rfl, rfl, rfl⟩) : e_Sn 70 44 (o_load e_okR 0 45)) t_70_45
noncomputable def n_70_41 : e_Y := u_if y_ne0 (u_old2 (o_ifeq 44 70) 44 n_70_44 (u_at 70)) n_70_44 (u_at 70)
theorem t_70_41 : e_Sn 70 41 (e_un n_70_41) := u_ifeqT rfl (s_ifne (off := (29)) hq_70 (by decide +kernel) rfl rfl : e_Sn 70 41 (o_ifeq 44 70)) t_70_44 u_atT
noncomputable def n_70_38 : e_Y := u_callV 12 69 3 22 3 n_69_0 n_70_41
theorem t_70_38 : e_Sn 70 38 (e_un n_70_38) := u_callVT rfl (s_callV (ci := 12) (C := er_12) (T := et_12) (N := 5) (index := 148) hq_70 ho_70 hy_69 hp_69 hc_69 hi_69 hd_69 (List.mem_of_getElem? (i := 1992) (by decide +kernel)) hs_69 (List.mem_of_getElem? (i := 73) (by decide +kernel)) rfl (by decide +kernel) rfl : e_Sn 70 38 (o_callV (e_s1 12 69 3) 3 41)) t_69_0 t_70_41
noncomputable def n_70_37 : e_Y := u_push (.inl 2147483649) n_70_38
theorem t_70_37 : e_Sn 70 37 (e_un n_70_37) := u_pushT (s_iconst (n := (1)) hq_70 (by decide +kernel) rfl ⟨by decide +kernel, by decide +kernel⟩ : e_Sn 70 37 (o_push (.inl 2147483649) 38)) t_70_38
noncomputable def n_70_35 : e_Y := u_ld f_okI f_l7 n_70_37
theorem t_70_35 : e_Sn 70 35 (e_un n_70_35) := u_ldIT f_l7_eq (s_iload (i := .iload 7) (len := 2) hq_70 (by decide +kernel) rfl (.inl ⟨rfl, rfl⟩) : e_Sn 70 35 (o_load e_okI 7 37)) t_70_37
noncomputable def n_70_34 : e_Y := u_ld f_okA f_l0 n_70_35
theorem t_70_34 : e_Sn 70 34 (e_un n_70_34) := u_ldAT f_l0_eq (s_aload (i := .aload_n 0) (len := 1) hq_70 (by decide +kernel) rfl (.inr ⟨0, rfl, rfl, rfl⟩) : e_Sn 70 34 (o_load e_okR 0 35)) t_70_35
noncomputable def n_70_32 : e_Y := u_st f_okI f_s7 n_70_34
theorem t_70_32 : e_Sn 70 32 (e_un n_70_32) := u_stIT (fun _ _ _ => f_s7_eq) (s_istore (i := .istore 7) (len := 2) hq_70 (by decide +kernel) rfl (.inl ⟨rfl, rfl⟩) : e_Sn 70 32 (o_store e_okI 7 34)) t_70_34
noncomputable def n_70_31 : e_Y := u_push (.inl 2147483648) n_70_32
theorem t_70_31 : e_Sn 70 31 (e_un n_70_31) := u_pushT (s_iconst (n := (0)) hq_70 (by decide +kernel) rfl ⟨by decide +kernel, by decide +kernel⟩ : e_Sn 70 31 (o_push (.inl 2147483648) 32)) t_70_32
noncomputable def n_70_24 : e_Y := u_if y_ne0 (u_old2 (o_ifeq 31 27) 31 n_70_31 (u_at 27)) n_70_31 (u_at 27)
theorem t_70_24 : e_Sn 70 24 (e_un n_70_24) := u_ifeqT rfl (s_ifeq (off := (7)) hq_70 (by decide +kernel) rfl rfl : e_Sn 70 24 (o_ifeq 31 27)) t_70_31 u_atT
noncomputable def n_70_21 : e_Y := u_callS 65 2 21 2 n_65_0 n_70_24
theorem t_70_21 : e_Sn 70 21 (e_un n_70_21) := u_callST rfl (s_callS (index := 144) hq_70 ho_70 hy_65 hp_65 hc_65 hi_65 hd_65 (List.mem_of_getElem? (i := 1982) (by decide +kernel)) hs_65 (by decide +kernel) rfl : e_Sn 70 21 (o_callS 65 2 2 24)) t_65_0 t_70_24
noncomputable def n_70_19 : e_Y := u_ld f_okI f_l6 n_70_21
theorem t_70_19 : e_Sn 70 19 (e_un n_70_19) := u_ldIT f_l6_eq (s_iload (i := .iload 6) (len := 2) hq_70 (by decide +kernel) rfl (.inl ⟨rfl, rfl⟩) : e_Sn 70 19 (o_load e_okI 6 21)) t_70_21
noncomputable def n_70_17 : e_Y := u_ld f_okI f_l5 n_70_19
theorem t_70_17 : e_Sn 70 17 (e_un n_70_17) := u_ldIT f_l5_eq (s_iload (i := .iload 5) (len := 2) hq_70 (by decide +kernel) rfl (.inl ⟨rfl, rfl⟩) : e_Sn 70 17 (o_load e_okI 5 19)) t_70_19
noncomputable def n_70_14 : e_Y := u_if y_ne0 (u_old2 (o_ifeq 17 27) 17 n_70_17 (u_at 27)) n_70_17 (u_at 27)
theorem t_70_14 : e_Sn 70 14 (e_un n_70_14) := u_ifeqT rfl (s_ifne (off := (13)) hq_70 (by decide +kernel) rfl rfl : e_Sn 70 14 (o_ifeq 17 27)) t_70_17 u_atT
noncomputable def n_70_11 : e_Y := u_callS 65 2 21 2 n_65_0 n_70_14
theorem t_70_11 : e_Sn 70 11 (e_un n_70_11) := u_callST rfl (s_callS (index := 144) hq_70 ho_70 hy_65 hp_65 hc_65 hi_65 hd_65 (List.mem_of_getElem? (i := 1982) (by decide +kernel)) hs_65 (by decide +kernel) rfl : e_Sn 70 11 (o_callS 65 2 2 14)) t_65_0 t_70_14
noncomputable def n_70_9 : e_Y := u_ld f_okI f_l4 n_70_11
theorem t_70_9 : e_Sn 70 9 (e_un n_70_9) := u_ldIT f_l4_eq (s_iload (i := .iload 4) (len := 2) hq_70 (by decide +kernel) rfl (.inl ⟨rfl, rfl⟩) : e_Sn 70 9 (o_load e_okI 4 11)) t_70_11
noncomputable def n_70_8 : e_Y := u_ld f_okI f_l3 n_70_9
theorem t_70_8 : e_Sn 70 8 (e_un n_70_8) := u_ldIT f_l3_eq (s_iload (i := .iload_n 3) (len := 1) hq_70 (by decide +kernel) rfl (.inr ⟨3, rfl, rfl, rfl⟩) : e_Sn 70 8 (o_load e_okI 3 9)) t_70_9
noncomputable def n_70_5 : e_Y := u_if y_ne0 (u_old2 (o_ifeq 8 27) 8 n_70_8 (u_at 27)) n_70_8 (u_at 27)
theorem t_70_5 : e_Sn 70 5 (e_un n_70_5) := u_ifeqT rfl (s_ifne (off := (22)) hq_70 (by decide +kernel) rfl rfl : e_Sn 70 5 (o_ifeq 8 27)) t_70_8 u_atT
noncomputable def n_70_2 : e_Y := u_callS 65 2 21 2 n_65_0 n_70_5
theorem t_70_2 : e_Sn 70 2 (e_un n_70_2) := u_callST rfl (s_callS (index := 144) hq_70 ho_70 hy_65 hp_65 hc_65 hi_65 hd_65 (List.mem_of_getElem? (i := 1982) (by decide +kernel)) hs_65 (by decide +kernel) rfl : e_Sn 70 2 (o_callS 65 2 2 5)) t_65_0 t_70_5
noncomputable def n_70_1 : e_Y := u_ld f_okI f_l2 n_70_2
theorem t_70_1 : e_Sn 70 1 (e_un n_70_1) := u_ldIT f_l2_eq (s_iload (i := .iload_n 2) (len := 1) hq_70 (by decide +kernel) rfl (.inr ⟨2, rfl, rfl, rfl⟩) : e_Sn 70 1 (o_load e_okI 2 2)) t_70_2
noncomputable def n_70_0 : e_Y := u_ld f_okI f_l1 n_70_1
theorem t_70_0 : e_Sn 70 0 (e_un n_70_0) := u_ldIT f_l1_eq (s_iload (i := .iload_n 1) (len := 1) hq_70 (by decide +kernel) rfl (.inr ⟨1, rfl, rfl, rfl⟩) : e_Sn 70 0 (o_load e_okI 1 1)) t_70_1
noncomputable def e_tb_70 : e_X := (e_br 98 (e_br 79 (e_lf 0 (e_un n_70_0)) (e_lf 79 (e_un n_70_79))) (e_br 118 (e_lf 98 (e_un n_70_98)) (e_lf 118 (e_un n_70_118))))
theorem e_tk_70 : e_Tb 70 e_tb_70 := (e_brT (e_brT (e_lfT t_70_0) (e_lfT t_70_79)) (e_brT (e_lfT t_70_98) (e_lfT t_70_118)))
theorem hq_116 : (e_ml[116]?).map (·.2.1) = some code := rfl
theorem ho_116 : (e_ml[116]?).map (·.1.cls) = some "PlateroomprinterLaw" := rfl
theorem hr_116 : (e_ml[116]?).map (·.2.2.2) = some (some .boolean) := rfl
noncomputable def n_116_1471 : e_Y := u_tab (o_ret e_okZ)
theorem t_116_1471 : e_Sn 116 1471 (e_un n_116_1471) := u_tabT (s_zret hq_116 hr_116 (by decide +kernel) : e_Sn 116 1471 (o_ret e_okZ))
noncomputable def n_116_1470 : e_Y := u_push (.inl 2147483649) n_116_1471
theorem t_116_1470 : e_Sn 116 1470 (e_un n_116_1470) := u_pushT (s_iconst (n := (1)) hq_116 (by decide +kernel) rfl ⟨by decide +kernel, by decide +kernel⟩ : e_Sn 116 1470 (o_push (.inl 2147483649) 1471)) t_116_1471
noncomputable def n_116_1467 : e_Y := (u_at 23)
theorem t_116_1467 : e_Sn 116 1467 (e_un n_116_1467) := u_gotoT (s_goto (off := (-1444)) hq_116 (by decide +kernel) rfl : e_Sn 116 1467 (o_goto 23)) u_atT
noncomputable def n_116_1464 : e_Y := u_inc f_l4 f_s4 7 n_116_1467
theorem t_116_1464 : e_Sn 116 1464 (e_un n_116_1464) := u_incT f_l4_eq (fun _ _ _ => f_s4_eq) (s_iinc (zz := (7)) hq_116 (by decide +kernel) rfl (by decide +kernel) ⟨by decide, by decide⟩ : e_Sn 116 1464 (o_iinc 4 7 1467)) t_116_1467
noncomputable def n_116_405 : e_Y := n_116_1464
theorem t_116_405 : e_Sn 116 405 (e_un n_116_405) := u_gotoT (s_goto (off := (1059)) hq_116 (by decide +kernel) rfl : e_Sn 116 405 (o_goto 1464)) t_116_1464
noncomputable def n_116_404 : e_Y := u_pop n_116_405
theorem t_116_404 : e_Sn 116 404 (e_un n_116_404) := u_popT (s_pop hq_116 (by decide +kernel) rfl : e_Sn 116 404 (o_pop 405)) t_116_405
noncomputable def n_116_401 : e_Y := u_callV 12 68 4 23 1 n_68_0 n_116_404
theorem t_116_401 : e_Sn 116 401 (e_un n_116_401) := u_callVT rfl (s_callVW (ci := 12) (C := er_12) (T := et_12) (N := 5) (index := 135) hq_116 ho_116 hy_68 hp_68 hc_68 hi_68 hd_68 (List.mem_of_getElem? (i := 2037) (by decide +kernel)) hs_68 (List.mem_of_getElem? (i := 2039) (by decide +kernel)) rfl (by decide +kernel) rfl : e_Sn 116 401 (o_callV (e_s1 12 68 4) 1 404)) t_68_0 t_116_404
noncomputable def n_116_400 : e_Y := u_ld f_okA f_l2 n_116_401
theorem t_116_400 : e_Sn 116 400 (e_un n_116_400) := u_ldAT f_l2_eq (s_aload (i := .aload_n 2) (len := 1) hq_116 (by decide +kernel) rfl (.inr ⟨2, rfl, rfl, rfl⟩) : e_Sn 116 400 (o_load e_okR 2 401)) t_116_401
noncomputable def n_116_399 : e_Y := u_pop n_116_400
theorem t_116_399 : e_Sn 116 399 (e_un n_116_399) := u_popT (s_pop hq_116 (by decide +kernel) rfl : e_Sn 116 399 (o_pop 400)) t_116_400
noncomputable def n_116_396 : e_Y := u_callV 0 3 3 22 1 n_3_0 n_116_399
theorem t_116_396 : e_Sn 116 396 (e_un n_116_396) := u_callVT rfl (s_callV (ci := 0) (C := er_0) (T := et_0) (N := 17) (index := 132) hq_116 ho_116 hy_3 hp_3 hc_3 hi_3 hd_3 (List.mem_of_getElem? (i := 736) (by decide +kernel)) hs_3 (List.mem_of_getElem? (i := 738) (by decide +kernel)) rfl (by decide +kernel) rfl : e_Sn 116 396 (o_callV (e_s1 0 3 3) 1 399)) t_3_0 t_116_399
noncomputable def n_116_395 : e_Y := u_ld f_okA f_l1 n_116_396
theorem t_116_395 : e_Sn 116 395 (e_un n_116_395) := u_ldAT f_l1_eq (s_aload (i := .aload_n 1) (len := 1) hq_116 (by decide +kernel) rfl (.inr ⟨1, rfl, rfl, rfl⟩) : e_Sn 116 395 (o_load e_okR 1 396)) t_116_396
noncomputable def n_116_363 : e_Y := n_116_1464
theorem t_116_363 : e_Sn 116 363 (e_un n_116_363) := u_gotoT (s_goto (off := (1101)) hq_116 (by decide +kernel) rfl : e_Sn 116 363 (o_goto 1464)) t_116_1464
noncomputable def n_116_361 : e_Y := u_st f_okI f_s6 n_116_363
theorem t_116_361 : e_Sn 116 361 (e_un n_116_361) := u_stIT (fun _ _ _ => f_s6_eq) (s_istore (i := .istore 6) (len := 2) hq_116 (by decide +kernel) rfl (.inl ⟨rfl, rfl⟩) : e_Sn 116 361 (o_store e_okI 6 363)) t_116_363
noncomputable def n_116_358 : e_Y := u_callV 12 70 8 27 7 n_70_0 n_116_361
theorem t_116_358 : e_Sn 116 358 (e_un n_116_358) := u_callVT rfl (s_callV (ci := 12) (C := er_12) (T := et_12) (N := 5) (index := 123) hq_116 ho_116 hy_70 hp_70 hc_70 hi_70 hd_70 (List.mem_of_getElem? (i := 2005) (by decide +kernel)) hs_70 (List.mem_of_getElem? (i := 2007) (by decide +kernel)) rfl (by decide +kernel) rfl : e_Sn 116 358 (o_callV (e_s1 12 70 8) 7 361)) t_70_0 t_116_361
noncomputable def n_116_357 : e_Y := u_ald 0 (u_old (o_ald e_fcs 358) n_116_358) n_116_358
theorem t_116_357 : e_Sn 116 357 (e_un n_116_357) := u_aldT (s_iald hq_116 (by decide +kernel) rfl : e_Sn 116 357 (o_ald e_fcs 358)) t_116_358
noncomputable def n_116_356 : e_Y := u_bin a_iadd (u_old (o_iadd 357) n_116_357) n_116_357
theorem t_116_356 : e_Sn 116 356 (e_un n_116_356) := u_iaddT (s_iadd hq_116 (by decide +kernel) rfl : e_Sn 116 356 (o_iadd 357)) t_116_357
noncomputable def n_116_354 : e_Y := u_push (.inl 2147483654) n_116_356
theorem t_116_354 : e_Sn 116 354 (e_un n_116_354) := u_pushT (s_bipush (n := (6)) hq_116 (by decide +kernel) rfl ⟨by decide +kernel, by decide +kernel⟩ : e_Sn 116 354 (o_push (.inl 2147483654) 356)) t_116_356
noncomputable def n_116_352 : e_Y := u_ld f_okI f_l4 n_116_354
theorem t_116_352 : e_Sn 116 352 (e_un n_116_352) := u_ldIT f_l4_eq (s_iload (i := .iload 4) (len := 2) hq_116 (by decide +kernel) rfl (.inl ⟨rfl, rfl⟩) : e_Sn 116 352 (o_load e_okI 4 354)) t_116_354
noncomputable def n_116_351 : e_Y := u_ld f_okA f_l0 n_116_352
theorem t_116_351 : e_Sn 116 351 (e_un n_116_351) := u_ldAT f_l0_eq (s_aload (i := .aload_n 0) (len := 1) hq_116 (by decide +kernel) rfl (.inr ⟨0, rfl, rfl, rfl⟩) : e_Sn 116 351 (o_load e_okR 0 352)) t_116_352
noncomputable def n_116_350 : e_Y := u_ald 0 (u_old (o_ald e_fcs 351) n_116_351) n_116_351
theorem t_116_350 : e_Sn 116 350 (e_un n_116_350) := u_aldT (s_iald hq_116 (by decide +kernel) rfl : e_Sn 116 350 (o_ald e_fcs 351)) t_116_351
noncomputable def n_116_349 : e_Y := u_bin a_iadd (u_old (o_iadd 350) n_116_350) n_116_350
theorem t_116_349 : e_Sn 116 349 (e_un n_116_349) := u_iaddT (s_iadd hq_116 (by decide +kernel) rfl : e_Sn 116 349 (o_iadd 350)) t_116_350
noncomputable def n_116_348 : e_Y := u_push (.inl 2147483653) n_116_349
theorem t_116_348 : e_Sn 116 348 (e_un n_116_348) := u_pushT (s_iconst (n := (5)) hq_116 (by decide +kernel) rfl ⟨by decide +kernel, by decide +kernel⟩ : e_Sn 116 348 (o_push (.inl 2147483653) 349)) t_116_349
noncomputable def n_116_346 : e_Y := u_ld f_okI f_l4 n_116_348
theorem t_116_346 : e_Sn 116 346 (e_un n_116_346) := u_ldIT f_l4_eq (s_iload (i := .iload 4) (len := 2) hq_116 (by decide +kernel) rfl (.inl ⟨rfl, rfl⟩) : e_Sn 116 346 (o_load e_okI 4 348)) t_116_348
noncomputable def n_116_345 : e_Y := u_ld f_okA f_l0 n_116_346
theorem t_116_345 : e_Sn 116 345 (e_un n_116_345) := u_ldAT f_l0_eq (s_aload (i := .aload_n 0) (len := 1) hq_116 (by decide +kernel) rfl (.inr ⟨0, rfl, rfl, rfl⟩) : e_Sn 116 345 (o_load e_okR 0 346)) t_116_346
noncomputable def n_116_344 : e_Y := u_ald 0 (u_old (o_ald e_fcs 345) n_116_345) n_116_345
theorem t_116_344 : e_Sn 116 344 (e_un n_116_344) := u_aldT (s_iald hq_116 (by decide +kernel) rfl : e_Sn 116 344 (o_ald e_fcs 345)) t_116_345
noncomputable def n_116_343 : e_Y := u_bin a_iadd (u_old (o_iadd 344) n_116_344) n_116_344
theorem t_116_343 : e_Sn 116 343 (e_un n_116_343) := u_iaddT (s_iadd hq_116 (by decide +kernel) rfl : e_Sn 116 343 (o_iadd 344)) t_116_344
noncomputable def n_116_342 : e_Y := u_push (.inl 2147483652) n_116_343
theorem t_116_342 : e_Sn 116 342 (e_un n_116_342) := u_pushT (s_iconst (n := (4)) hq_116 (by decide +kernel) rfl ⟨by decide +kernel, by decide +kernel⟩ : e_Sn 116 342 (o_push (.inl 2147483652) 343)) t_116_343
noncomputable def n_116_340 : e_Y := u_ld f_okI f_l4 n_116_342
theorem t_116_340 : e_Sn 116 340 (e_un n_116_340) := u_ldIT f_l4_eq (s_iload (i := .iload 4) (len := 2) hq_116 (by decide +kernel) rfl (.inl ⟨rfl, rfl⟩) : e_Sn 116 340 (o_load e_okI 4 342)) t_116_342
noncomputable def n_116_339 : e_Y := u_ld f_okA f_l0 n_116_340
theorem t_116_339 : e_Sn 116 339 (e_un n_116_339) := u_ldAT f_l0_eq (s_aload (i := .aload_n 0) (len := 1) hq_116 (by decide +kernel) rfl (.inr ⟨0, rfl, rfl, rfl⟩) : e_Sn 116 339 (o_load e_okR 0 340)) t_116_340
noncomputable def n_116_338 : e_Y := u_ald 0 (u_old (o_ald e_fcs 339) n_116_339) n_116_339
theorem t_116_338 : e_Sn 116 338 (e_un n_116_338) := u_aldT (s_iald hq_116 (by decide +kernel) rfl : e_Sn 116 338 (o_ald e_fcs 339)) t_116_339
noncomputable def n_116_337 : e_Y := u_bin a_iadd (u_old (o_iadd 338) n_116_338) n_116_338
theorem t_116_337 : e_Sn 116 337 (e_un n_116_337) := u_iaddT (s_iadd hq_116 (by decide +kernel) rfl : e_Sn 116 337 (o_iadd 338)) t_116_338
noncomputable def n_116_336 : e_Y := u_push (.inl 2147483651) n_116_337
theorem t_116_336 : e_Sn 116 336 (e_un n_116_336) := u_pushT (s_iconst (n := (3)) hq_116 (by decide +kernel) rfl ⟨by decide +kernel, by decide +kernel⟩ : e_Sn 116 336 (o_push (.inl 2147483651) 337)) t_116_337
noncomputable def n_116_334 : e_Y := u_ld f_okI f_l4 n_116_336
theorem t_116_334 : e_Sn 116 334 (e_un n_116_334) := u_ldIT f_l4_eq (s_iload (i := .iload 4) (len := 2) hq_116 (by decide +kernel) rfl (.inl ⟨rfl, rfl⟩) : e_Sn 116 334 (o_load e_okI 4 336)) t_116_336
noncomputable def n_116_333 : e_Y := u_ld f_okA f_l0 n_116_334
theorem t_116_333 : e_Sn 116 333 (e_un n_116_333) := u_ldAT f_l0_eq (s_aload (i := .aload_n 0) (len := 1) hq_116 (by decide +kernel) rfl (.inr ⟨0, rfl, rfl, rfl⟩) : e_Sn 116 333 (o_load e_okR 0 334)) t_116_334
noncomputable def n_116_332 : e_Y := u_ald 0 (u_old (o_ald e_fcs 333) n_116_333) n_116_333
theorem t_116_332 : e_Sn 116 332 (e_un n_116_332) := u_aldT (s_iald hq_116 (by decide +kernel) rfl : e_Sn 116 332 (o_ald e_fcs 333)) t_116_333
noncomputable def n_116_331 : e_Y := u_bin a_iadd (u_old (o_iadd 332) n_116_332) n_116_332
theorem t_116_331 : e_Sn 116 331 (e_un n_116_331) := u_iaddT (s_iadd hq_116 (by decide +kernel) rfl : e_Sn 116 331 (o_iadd 332)) t_116_332
noncomputable def n_116_330 : e_Y := u_push (.inl 2147483650) n_116_331
theorem t_116_330 : e_Sn 116 330 (e_un n_116_330) := u_pushT (s_iconst (n := (2)) hq_116 (by decide +kernel) rfl ⟨by decide +kernel, by decide +kernel⟩ : e_Sn 116 330 (o_push (.inl 2147483650) 331)) t_116_331
noncomputable def n_116_328 : e_Y := u_ld f_okI f_l4 n_116_330
theorem t_116_328 : e_Sn 116 328 (e_un n_116_328) := u_ldIT f_l4_eq (s_iload (i := .iload 4) (len := 2) hq_116 (by decide +kernel) rfl (.inl ⟨rfl, rfl⟩) : e_Sn 116 328 (o_load e_okI 4 330)) t_116_330
noncomputable def n_116_327 : e_Y := u_ld f_okA f_l0 n_116_328
theorem t_116_327 : e_Sn 116 327 (e_un n_116_327) := u_ldAT f_l0_eq (s_aload (i := .aload_n 0) (len := 1) hq_116 (by decide +kernel) rfl (.inr ⟨0, rfl, rfl, rfl⟩) : e_Sn 116 327 (o_load e_okR 0 328)) t_116_328
noncomputable def n_116_326 : e_Y := u_ald 0 (u_old (o_ald e_fcs 327) n_116_327) n_116_327
theorem t_116_326 : e_Sn 116 326 (e_un n_116_326) := u_aldT (s_iald hq_116 (by decide +kernel) rfl : e_Sn 116 326 (o_ald e_fcs 327)) t_116_327
noncomputable def n_116_325 : e_Y := u_bin a_iadd (u_old (o_iadd 326) n_116_326) n_116_326
theorem t_116_325 : e_Sn 116 325 (e_un n_116_325) := u_iaddT (s_iadd hq_116 (by decide +kernel) rfl : e_Sn 116 325 (o_iadd 326)) t_116_326
noncomputable def n_116_324 : e_Y := u_push (.inl 2147483649) n_116_325
theorem t_116_324 : e_Sn 116 324 (e_un n_116_324) := u_pushT (s_iconst (n := (1)) hq_116 (by decide +kernel) rfl ⟨by decide +kernel, by decide +kernel⟩ : e_Sn 116 324 (o_push (.inl 2147483649) 325)) t_116_325
noncomputable def n_116_322 : e_Y := u_ld f_okI f_l4 n_116_324
theorem t_116_322 : e_Sn 116 322 (e_un n_116_322) := u_ldIT f_l4_eq (s_iload (i := .iload 4) (len := 2) hq_116 (by decide +kernel) rfl (.inl ⟨rfl, rfl⟩) : e_Sn 116 322 (o_load e_okI 4 324)) t_116_324
noncomputable def n_116_321 : e_Y := u_ld f_okA f_l0 n_116_322
theorem t_116_321 : e_Sn 116 321 (e_un n_116_321) := u_ldAT f_l0_eq (s_aload (i := .aload_n 0) (len := 1) hq_116 (by decide +kernel) rfl (.inr ⟨0, rfl, rfl, rfl⟩) : e_Sn 116 321 (o_load e_okR 0 322)) t_116_322
noncomputable def n_116_320 : e_Y := u_ld f_okA f_l2 n_116_321
theorem t_116_320 : e_Sn 116 320 (e_un n_116_320) := u_ldAT f_l2_eq (s_aload (i := .aload_n 2) (len := 1) hq_116 (by decide +kernel) rfl (.inr ⟨2, rfl, rfl, rfl⟩) : e_Sn 116 320 (o_load e_okR 2 321)) t_116_321
noncomputable def n_116_318 : e_Y := u_st f_okI f_s5 n_116_320
theorem t_116_318 : e_Sn 116 318 (e_un n_116_318) := u_stIT (fun _ _ _ => f_s5_eq) (s_istore (i := .istore 5) (len := 2) hq_116 (by decide +kernel) rfl (.inl ⟨rfl, rfl⟩) : e_Sn 116 318 (o_store e_okI 5 320)) t_116_320
noncomputable def n_116_315 : e_Y := u_callS 58 9 28 8 n_58_0 n_116_318
theorem t_116_315 : e_Sn 116 315 (e_un n_116_315) := u_callST rfl (s_callSW (index := 120) hq_116 ho_116 hy_58 hp_58 hc_58 hi_58 hd_58 (List.mem_of_getElem? (i := 1594) (by decide +kernel)) hs_58 (by decide +kernel) rfl : e_Sn 116 315 (o_callS 58 9 8 318)) t_58_0 t_116_318
noncomputable def n_116_314 : e_Y := u_ld f_okA f_l3 n_116_315
theorem t_116_314 : e_Sn 116 314 (e_un n_116_314) := u_ldAT f_l3_eq (s_aload (i := .aload_n 3) (len := 1) hq_116 (by decide +kernel) rfl (.inr ⟨3, rfl, rfl, rfl⟩) : e_Sn 116 314 (o_load e_okR 3 315)) t_116_315
noncomputable def n_116_313 : e_Y := u_ald 0 (u_old (o_ald e_fcs 314) n_116_314) n_116_314
theorem t_116_313 : e_Sn 116 313 (e_un n_116_313) := u_aldT (s_iald hq_116 (by decide +kernel) rfl : e_Sn 116 313 (o_ald e_fcs 314)) t_116_314
noncomputable def n_116_312 : e_Y := u_bin a_iadd (u_old (o_iadd 313) n_116_313) n_116_313
theorem t_116_312 : e_Sn 116 312 (e_un n_116_312) := u_iaddT (s_iadd hq_116 (by decide +kernel) rfl : e_Sn 116 312 (o_iadd 313)) t_116_313
noncomputable def n_116_310 : e_Y := u_push (.inl 2147483654) n_116_312
theorem t_116_310 : e_Sn 116 310 (e_un n_116_310) := u_pushT (s_bipush (n := (6)) hq_116 (by decide +kernel) rfl ⟨by decide +kernel, by decide +kernel⟩ : e_Sn 116 310 (o_push (.inl 2147483654) 312)) t_116_312
noncomputable def n_116_308 : e_Y := u_ld f_okI f_l4 n_116_310
theorem t_116_308 : e_Sn 116 308 (e_un n_116_308) := u_ldIT f_l4_eq (s_iload (i := .iload 4) (len := 2) hq_116 (by decide +kernel) rfl (.inl ⟨rfl, rfl⟩) : e_Sn 116 308 (o_load e_okI 4 310)) t_116_310
noncomputable def n_116_307 : e_Y := u_ld f_okA f_l0 n_116_308
theorem t_116_307 : e_Sn 116 307 (e_un n_116_307) := u_ldAT f_l0_eq (s_aload (i := .aload_n 0) (len := 1) hq_116 (by decide +kernel) rfl (.inr ⟨0, rfl, rfl, rfl⟩) : e_Sn 116 307 (o_load e_okR 0 308)) t_116_308
noncomputable def n_116_306 : e_Y := u_ald 0 (u_old (o_ald e_fcs 307) n_116_307) n_116_307
theorem t_116_306 : e_Sn 116 306 (e_un n_116_306) := u_aldT (s_iald hq_116 (by decide +kernel) rfl : e_Sn 116 306 (o_ald e_fcs 307)) t_116_307
noncomputable def n_116_305 : e_Y := u_bin a_iadd (u_old (o_iadd 306) n_116_306) n_116_306
theorem t_116_305 : e_Sn 116 305 (e_un n_116_305) := u_iaddT (s_iadd hq_116 (by decide +kernel) rfl : e_Sn 116 305 (o_iadd 306)) t_116_306
noncomputable def n_116_304 : e_Y := u_push (.inl 2147483653) n_116_305
theorem t_116_304 : e_Sn 116 304 (e_un n_116_304) := u_pushT (s_iconst (n := (5)) hq_116 (by decide +kernel) rfl ⟨by decide +kernel, by decide +kernel⟩ : e_Sn 116 304 (o_push (.inl 2147483653) 305)) t_116_305
noncomputable def n_116_302 : e_Y := u_ld f_okI f_l4 n_116_304
theorem t_116_302 : e_Sn 116 302 (e_un n_116_302) := u_ldIT f_l4_eq (s_iload (i := .iload 4) (len := 2) hq_116 (by decide +kernel) rfl (.inl ⟨rfl, rfl⟩) : e_Sn 116 302 (o_load e_okI 4 304)) t_116_304
noncomputable def n_116_301 : e_Y := u_ld f_okA f_l0 n_116_302
theorem t_116_301 : e_Sn 116 301 (e_un n_116_301) := u_ldAT f_l0_eq (s_aload (i := .aload_n 0) (len := 1) hq_116 (by decide +kernel) rfl (.inr ⟨0, rfl, rfl, rfl⟩) : e_Sn 116 301 (o_load e_okR 0 302)) t_116_302
noncomputable def n_116_300 : e_Y := u_ald 0 (u_old (o_ald e_fcs 301) n_116_301) n_116_301
theorem t_116_300 : e_Sn 116 300 (e_un n_116_300) := u_aldT (s_iald hq_116 (by decide +kernel) rfl : e_Sn 116 300 (o_ald e_fcs 301)) t_116_301
noncomputable def n_116_299 : e_Y := u_bin a_iadd (u_old (o_iadd 300) n_116_300) n_116_300
theorem t_116_299 : e_Sn 116 299 (e_un n_116_299) := u_iaddT (s_iadd hq_116 (by decide +kernel) rfl : e_Sn 116 299 (o_iadd 300)) t_116_300
noncomputable def n_116_298 : e_Y := u_push (.inl 2147483652) n_116_299
theorem t_116_298 : e_Sn 116 298 (e_un n_116_298) := u_pushT (s_iconst (n := (4)) hq_116 (by decide +kernel) rfl ⟨by decide +kernel, by decide +kernel⟩ : e_Sn 116 298 (o_push (.inl 2147483652) 299)) t_116_299
noncomputable def n_116_296 : e_Y := u_ld f_okI f_l4 n_116_298
theorem t_116_296 : e_Sn 116 296 (e_un n_116_296) := u_ldIT f_l4_eq (s_iload (i := .iload 4) (len := 2) hq_116 (by decide +kernel) rfl (.inl ⟨rfl, rfl⟩) : e_Sn 116 296 (o_load e_okI 4 298)) t_116_298
noncomputable def n_116_295 : e_Y := u_ld f_okA f_l0 n_116_296
theorem t_116_295 : e_Sn 116 295 (e_un n_116_295) := u_ldAT f_l0_eq (s_aload (i := .aload_n 0) (len := 1) hq_116 (by decide +kernel) rfl (.inr ⟨0, rfl, rfl, rfl⟩) : e_Sn 116 295 (o_load e_okR 0 296)) t_116_296
noncomputable def n_116_294 : e_Y := u_ald 0 (u_old (o_ald e_fcs 295) n_116_295) n_116_295
theorem t_116_294 : e_Sn 116 294 (e_un n_116_294) := u_aldT (s_iald hq_116 (by decide +kernel) rfl : e_Sn 116 294 (o_ald e_fcs 295)) t_116_295
noncomputable def n_116_293 : e_Y := u_bin a_iadd (u_old (o_iadd 294) n_116_294) n_116_294
theorem t_116_293 : e_Sn 116 293 (e_un n_116_293) := u_iaddT (s_iadd hq_116 (by decide +kernel) rfl : e_Sn 116 293 (o_iadd 294)) t_116_294
noncomputable def n_116_292 : e_Y := u_push (.inl 2147483651) n_116_293
theorem t_116_292 : e_Sn 116 292 (e_un n_116_292) := u_pushT (s_iconst (n := (3)) hq_116 (by decide +kernel) rfl ⟨by decide +kernel, by decide +kernel⟩ : e_Sn 116 292 (o_push (.inl 2147483651) 293)) t_116_293
noncomputable def n_116_290 : e_Y := u_ld f_okI f_l4 n_116_292
theorem t_116_290 : e_Sn 116 290 (e_un n_116_290) := u_ldIT f_l4_eq (s_iload (i := .iload 4) (len := 2) hq_116 (by decide +kernel) rfl (.inl ⟨rfl, rfl⟩) : e_Sn 116 290 (o_load e_okI 4 292)) t_116_292
noncomputable def n_116_289 : e_Y := u_ld f_okA f_l0 n_116_290
theorem t_116_289 : e_Sn 116 289 (e_un n_116_289) := u_ldAT f_l0_eq (s_aload (i := .aload_n 0) (len := 1) hq_116 (by decide +kernel) rfl (.inr ⟨0, rfl, rfl, rfl⟩) : e_Sn 116 289 (o_load e_okR 0 290)) t_116_290
noncomputable def n_116_288 : e_Y := u_ald 0 (u_old (o_ald e_fcs 289) n_116_289) n_116_289
theorem t_116_288 : e_Sn 116 288 (e_un n_116_288) := u_aldT (s_iald hq_116 (by decide +kernel) rfl : e_Sn 116 288 (o_ald e_fcs 289)) t_116_289
noncomputable def n_116_287 : e_Y := u_bin a_iadd (u_old (o_iadd 288) n_116_288) n_116_288
theorem t_116_287 : e_Sn 116 287 (e_un n_116_287) := u_iaddT (s_iadd hq_116 (by decide +kernel) rfl : e_Sn 116 287 (o_iadd 288)) t_116_288
noncomputable def n_116_286 : e_Y := u_push (.inl 2147483650) n_116_287
theorem t_116_286 : e_Sn 116 286 (e_un n_116_286) := u_pushT (s_iconst (n := (2)) hq_116 (by decide +kernel) rfl ⟨by decide +kernel, by decide +kernel⟩ : e_Sn 116 286 (o_push (.inl 2147483650) 287)) t_116_287
noncomputable def n_116_284 : e_Y := u_ld f_okI f_l4 n_116_286
theorem t_116_284 : e_Sn 116 284 (e_un n_116_284) := u_ldIT f_l4_eq (s_iload (i := .iload 4) (len := 2) hq_116 (by decide +kernel) rfl (.inl ⟨rfl, rfl⟩) : e_Sn 116 284 (o_load e_okI 4 286)) t_116_286
noncomputable def n_116_283 : e_Y := u_ld f_okA f_l0 n_116_284
theorem t_116_283 : e_Sn 116 283 (e_un n_116_283) := u_ldAT f_l0_eq (s_aload (i := .aload_n 0) (len := 1) hq_116 (by decide +kernel) rfl (.inr ⟨0, rfl, rfl, rfl⟩) : e_Sn 116 283 (o_load e_okR 0 284)) t_116_284
noncomputable def n_116_282 : e_Y := u_ald 0 (u_old (o_ald e_fcs 283) n_116_283) n_116_283
theorem t_116_282 : e_Sn 116 282 (e_un n_116_282) := u_aldT (s_iald hq_116 (by decide +kernel) rfl : e_Sn 116 282 (o_ald e_fcs 283)) t_116_283
noncomputable def n_116_281 : e_Y := u_bin a_iadd (u_old (o_iadd 282) n_116_282) n_116_282
theorem t_116_281 : e_Sn 116 281 (e_un n_116_281) := u_iaddT (s_iadd hq_116 (by decide +kernel) rfl : e_Sn 116 281 (o_iadd 282)) t_116_282
noncomputable def n_116_280 : e_Y := u_push (.inl 2147483649) n_116_281
theorem t_116_280 : e_Sn 116 280 (e_un n_116_280) := u_pushT (s_iconst (n := (1)) hq_116 (by decide +kernel) rfl ⟨by decide +kernel, by decide +kernel⟩ : e_Sn 116 280 (o_push (.inl 2147483649) 281)) t_116_281
noncomputable def n_116_278 : e_Y := u_ld f_okI f_l4 n_116_280
theorem t_116_278 : e_Sn 116 278 (e_un n_116_278) := u_ldIT f_l4_eq (s_iload (i := .iload 4) (len := 2) hq_116 (by decide +kernel) rfl (.inl ⟨rfl, rfl⟩) : e_Sn 116 278 (o_load e_okI 4 280)) t_116_280
noncomputable def n_116_277 : e_Y := u_ld f_okA f_l0 n_116_278
theorem t_116_277 : e_Sn 116 277 (e_un n_116_277) := u_ldAT f_l0_eq (s_aload (i := .aload_n 0) (len := 1) hq_116 (by decide +kernel) rfl (.inr ⟨0, rfl, rfl, rfl⟩) : e_Sn 116 277 (o_load e_okR 0 278)) t_116_278
noncomputable def n_116_276 : e_Y := u_ld f_okA f_l1 n_116_277
theorem t_116_276 : e_Sn 116 276 (e_un n_116_276) := u_ldAT f_l1_eq (s_aload (i := .aload_n 1) (len := 1) hq_116 (by decide +kernel) rfl (.inr ⟨1, rfl, rfl, rfl⟩) : e_Sn 116 276 (o_load e_okR 1 277)) t_116_277
noncomputable def n_116_40 : e_Y := u_tab (o_switch 2147483648 [208, 276, 366, 382, 395, 408, 421, 434, 447, 487, 515, 528, 568, 608, 636, 664, 692, 732, 772, 824, 864, 916, 944, 996, 1009, 1073, 1086, 1126, 1166, 1206, 1246, 1274, 1302, 1330, 1370, 1398, 1438, 1451] 1464)
theorem t_116_40 : e_Sn 116 40 (e_un n_116_40) := u_tabT (s_switch (dflt := (1424)) (low := (0)) (hi := (37)) (offs := #[(168), (236), (326), (342), (355), (368), (381), (394), (407), (447), (475), (488), (528), (568), (596), (624), (652), (692), (732), (784), (824), (876), (904), (956), (969), (1033), (1046), (1086), (1126), (1166), (1206), (1234), (1262), (1290), (1330), (1358), (1398), (1411)]) (len := 168) hq_116 (by decide +kernel) rfl rfl rfl rfl : e_Sn 116 40 (o_switch 2147483648 [208, 276, 366, 382, 395, 408, 421, 434, 447, 487, 515, 528, 568, 608, 636, 664, 692, 732, 772, 824, 864, 916, 944, 996, 1009, 1073, 1086, 1126, 1166, 1206, 1246, 1274, 1302, 1330, 1370, 1398, 1438, 1451] 1464))
noncomputable def n_116_39 : e_Y := u_bin a_iand (u_old (o_bin Nat.land 40) n_116_40) n_116_40
theorem t_116_39 : e_Sn 116 39 (e_un n_116_39) := u_iandT (s_iand hq_116 (by decide +kernel) rfl : e_Sn 116 39 (o_bin Nat.land 40)) t_116_40
noncomputable def n_116_37 : e_Y := u_push (.inl 2147483711) n_116_39
theorem t_116_37 : e_Sn 116 37 (e_un n_116_37) := u_pushT (s_bipush (n := (63)) hq_116 (by decide +kernel) rfl ⟨by decide +kernel, by decide +kernel⟩ : e_Sn 116 37 (o_push (.inl 2147483711) 39)) t_116_39
noncomputable def n_116_36 : e_Y := u_ald 0 (u_old (o_ald e_fcs 37) n_116_37) n_116_37
theorem t_116_36 : e_Sn 116 36 (e_un n_116_36) := u_aldT (s_iald hq_116 (by decide +kernel) rfl : e_Sn 116 36 (o_ald e_fcs 37)) t_116_37
noncomputable def n_116_34 : e_Y := u_ld f_okI f_l4 n_116_36
theorem t_116_34 : e_Sn 116 34 (e_un n_116_34) := u_ldIT f_l4_eq (s_iload (i := .iload 4) (len := 2) hq_116 (by decide +kernel) rfl (.inl ⟨rfl, rfl⟩) : e_Sn 116 34 (o_load e_okI 4 36)) t_116_36
noncomputable def n_116_33 : e_Y := u_ld f_okA f_l0 n_116_34
theorem t_116_33 : e_Sn 116 33 (e_un n_116_33) := u_ldAT f_l0_eq (s_aload (i := .aload_n 0) (len := 1) hq_116 (by decide +kernel) rfl (.inr ⟨0, rfl, rfl, rfl⟩) : e_Sn 116 33 (o_load e_okR 0 34)) t_116_34
noncomputable def n_116_30 : e_Y := u_jmp y_le (u_old2 (o_cgt 1470 33) 1470 n_116_1470 n_116_33) n_116_1470 n_116_33
theorem t_116_30 : e_Sn 116 30 (e_un n_116_30) := u_cgtT rfl (s_cgt (off := (1440)) hq_116 (by decide +kernel) rfl rfl : e_Sn 116 30 (o_cgt 1470 33)) t_116_1470 t_116_33
noncomputable def n_116_29 : e_Y := u_bin a_isub (u_old (o_isub 30) n_116_30) n_116_30
theorem t_116_29 : e_Sn 116 29 (e_un n_116_29) := u_isubT (s_isub hq_116 (by decide +kernel) rfl : e_Sn 116 29 (o_isub 30)) t_116_30
noncomputable def n_116_27 : e_Y := u_push (.inl 2147483655) n_116_29
theorem t_116_27 : e_Sn 116 27 (e_un n_116_27) := u_pushT (s_bipush (n := (7)) hq_116 (by decide +kernel) rfl ⟨by decide +kernel, by decide +kernel⟩ : e_Sn 116 27 (o_push (.inl 2147483655) 29)) t_116_29
noncomputable def n_116_26 : e_Y := u_old (o_alen e_fcs 27) n_116_27
theorem t_116_26 : e_Sn 116 26 (e_un n_116_26) := u_oldT (s_alen hq_116 (by decide +kernel) rfl : e_Sn 116 26 (o_alen e_fcs 27)) t_116_27 (e_cg_alen e_fcs)
noncomputable def n_116_25 : e_Y := u_ld f_okA f_l0 n_116_26
theorem t_116_25 : e_Sn 116 25 (e_un n_116_25) := u_ldAT f_l0_eq (s_aload (i := .aload_n 0) (len := 1) hq_116 (by decide +kernel) rfl (.inr ⟨0, rfl, rfl, rfl⟩) : e_Sn 116 25 (o_load e_okR 0 26)) t_116_26
noncomputable def n_116_23 : e_Y := u_ld f_okI f_l4 n_116_25
theorem t_116_23 : e_Sn 116 23 (e_un n_116_23) := u_ldIT f_l4_eq (s_iload (i := .iload 4) (len := 2) hq_116 (by decide +kernel) rfl (.inl ⟨rfl, rfl⟩) : e_Sn 116 23 (o_load e_okI 4 25)) t_116_25
noncomputable def n_116_21 : e_Y := u_st f_okI f_s4 n_116_23
theorem t_116_21 : e_Sn 116 21 (e_un n_116_21) := u_stIT (fun _ _ _ => f_s4_eq) (s_istore (i := .istore 4) (len := 2) hq_116 (by decide +kernel) rfl (.inl ⟨rfl, rfl⟩) : e_Sn 116 21 (o_store e_okI 4 23)) t_116_23
noncomputable def n_116_20 : e_Y := u_push (.inl 2147483648) n_116_21
theorem t_116_20 : e_Sn 116 20 (e_un n_116_20) := u_pushT (s_iconst (n := (0)) hq_116 (by decide +kernel) rfl ⟨by decide +kernel, by decide +kernel⟩ : e_Sn 116 20 (o_push (.inl 2147483648) 21)) t_116_21
noncomputable def n_116_19 : e_Y := u_st f_okA f_s3 n_116_20
theorem t_116_19 : e_Sn 116 19 (e_un n_116_19) := u_stAT (fun _ _ _ => f_s3_eq) (s_astore (i := .astore_n 3) (len := 1) hq_116 (by decide +kernel) rfl (.inr ⟨3, rfl, rfl, rfl⟩) : e_Sn 116 19 (o_store e_okR 3 20)) t_116_20
noncomputable def n_116_17 : e_Y := u_tab (o_newa 2 (e_L 9223372036854775808) 19)
theorem t_116_17 : e_Sn 116 17 (e_un n_116_17) := u_tabT (s_newJ (List.mem_of_getElem? (i := 279) (by decide +kernel)) hq_116 (by decide +kernel) rfl : e_Sn 116 17 (o_newa 2 (e_L 9223372036854775808) 19))
noncomputable def n_116_16 : e_Y := u_push (.inl 2147483649) n_116_17
theorem t_116_16 : e_Sn 116 16 (e_un n_116_16) := u_pushT (s_iconst (n := (1)) hq_116 (by decide +kernel) rfl ⟨by decide +kernel, by decide +kernel⟩ : e_Sn 116 16 (o_push (.inl 2147483649) 17)) t_116_17
noncomputable def n_116_15 : e_Y := u_st f_okA f_s2 n_116_16
theorem t_116_15 : e_Sn 116 15 (e_un n_116_15) := u_stAT (fun _ _ _ => f_s2_eq) (s_astore (i := .astore_n 2) (len := 1) hq_116 (by decide +kernel) rfl (.inr ⟨2, rfl, rfl, rfl⟩) : e_Sn 116 15 (o_store e_okR 2 16)) t_116_16
noncomputable def n_116_12 : e_Y := u_tab (o_callI 59 1 1 15)
theorem t_116_12 : e_Sn 116 12 (e_un n_116_12) := u_tabT (s_callI (index := 110) hq_116 ho_116 hy_59 hp_59 hc_59 hi_59 hd_59 (List.mem_of_getElem? (i := 1740) (by decide +kernel)) rfl rfl hs_59 (by decide +kernel) rfl : e_Sn 116 12 (o_callI 59 1 1 15))
noncomputable def n_116_11 : e_Y := u_old (o_dup 12) n_116_12
theorem t_116_11 : e_Sn 116 11 (e_un n_116_11) := u_oldT (s_dup hq_116 (by decide +kernel) rfl : e_Sn 116 11 (o_dup 12)) t_116_12 e_cg_dup
noncomputable def n_116_8 : e_Y := u_tab (o_new 12 5 ef_12 11)
theorem t_116_8 : e_Sn 116 8 (e_un n_116_8) := u_tabT (s_new (index := 108) (ci := 12) (N := 5) (C := er_12) (T := et_12) (ty0 := ey_12) (fv := eg_12) hq_116 ho_116 rfl ei_12 eo_12 (List.mem_of_getElem? (i := 1738) (by decide +kernel)) (List.mem_of_getElem? (i := 1739) (by decide +kernel)) (List.mem_of_getElem? (i := 151) (by decide +kernel)) eh_12 rfl (e_newrel ek_12) (by decide +kernel) rfl : e_Sn 116 8 (o_new 12 5 ef_12 11))
noncomputable def n_116_7 : e_Y := u_st f_okA f_s1 n_116_8
theorem t_116_7 : e_Sn 116 7 (e_un n_116_7) := u_stAT (fun _ _ _ => f_s1_eq) (s_astore (i := .astore_n 1) (len := 1) hq_116 (by decide +kernel) rfl (.inr ⟨1, rfl, rfl, rfl⟩) : e_Sn 116 7 (o_store e_okR 1 8)) t_116_8
noncomputable def n_116_4 : e_Y := u_tab (o_callI 0 1 1 7)
theorem t_116_4 : e_Sn 116 4 (e_un n_116_4) := u_tabT (s_callI (index := 107) hq_116 ho_116 hy_0 hp_0 hc_0 hi_0 hd_0 (List.mem_of_getElem? (i := 186) (by decide +kernel)) rfl rfl hs_0 (by decide +kernel) rfl : e_Sn 116 4 (o_callI 0 1 1 7))
noncomputable def n_116_3 : e_Y := u_old (o_dup 4) n_116_4
theorem t_116_3 : e_Sn 116 3 (e_un n_116_3) := u_oldT (s_dup hq_116 (by decide +kernel) rfl : e_Sn 116 3 (o_dup 4)) t_116_4 e_cg_dup
noncomputable def n_116_0 : e_Y := u_tab (o_new 0 17 ef_0 3)
theorem t_116_0 : e_Sn 116 0 (e_un n_116_0) := u_tabT (s_new (index := 8) (ci := 0) (N := 17) (C := er_0) (T := et_0) (ty0 := ey_0) (fv := eg_0) hq_116 ho_116 rfl ei_0 eo_0 (List.mem_of_getElem? (i := 184) (by decide +kernel)) (List.mem_of_getElem? (i := 185) (by decide +kernel)) (List.mem_of_getElem? (i := 138) (by decide +kernel)) eh_0 rfl (e_newrel ek_0) (by decide +kernel) rfl : e_Sn 116 0 (o_new 0 17 ef_0 3))
noncomputable def e_tb_116 : e_X := (e_br 19 (e_br 7 (e_br 3 (e_lf 0 (e_un n_116_0)) (e_lf 3 (e_un n_116_3))) (e_br 11 (e_lf 7 (e_un n_116_7)) (e_br 15 (e_lf 11 (e_un n_116_11)) (e_lf 15 (e_un n_116_15))))) (e_br 276 (e_br 23 (e_lf 19 (e_un n_116_19)) (e_lf 23 (e_un n_116_23))) (e_br 395 (e_lf 276 (e_un n_116_276)) (e_br 1464 (e_lf 395 (e_un n_116_395)) (e_lf 1464 (e_un n_116_1464))))))
theorem e_tk_116 : e_Tb 116 e_tb_116 := (e_brT (e_brT (e_brT (e_lfT t_116_0) (e_lfT t_116_3)) (e_brT (e_lfT t_116_7) (e_brT (e_lfT t_116_11) (e_lfT t_116_15)))) (e_brT (e_brT (e_lfT t_116_19) (e_lfT t_116_23)) (e_brT (e_lfT t_116_276) (e_brT (e_lfT t_116_395) (e_lfT t_116_1464)))))
end SN
