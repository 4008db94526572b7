/-! TABLES, by program -/
section SN
theorem hq_81 : (e_ml[81]?).map (·.2.1) = some prog_20_method_19_code := rfl
theorem ho_81 : (e_ml[81]?).map (·.1.cls) = some "PlateroomprinterModel$Run" := rfl
theorem hr_81 : (e_ml[81]?).map (·.2.2.2) = some none := rfl
noncomputable def n_81_482 : e_Y := u_tab (o_retv)
theorem t_81_482 : e_Sn 81 482 (e_un n_81_482) := u_tabT (s_vret hq_81 hr_81 (by decide +kernel) : e_Sn 81 482 (o_retv))
noncomputable def n_81_391 : e_Y := n_81_482
theorem t_81_391 : e_Sn 81 391 (e_un n_81_391) := u_gotoT (s_goto (off := (91)) hq_81 (by decide +kernel) rfl : e_Sn 81 391 (o_goto 482)) t_81_482
noncomputable def n_81_388 : e_Y := u_callV 16 80 2 21 2 n_80_0 n_81_391
theorem t_81_388 : e_Sn 81 388 (e_un n_81_388) := u_callVT rfl (s_callV (ci := 16) (C := er_16) (T := et_16) (N := 5) (index := 213) hq_81 ho_81 hy_80 hp_80 hc_80 hi_80 hd_80 (List.mem_of_getElem? (i := 2295) (by decide +kernel)) hs_80 (List.mem_of_getElem? (i := 91) (by decide +kernel)) rfl (by decide +kernel) rfl : e_Sn 81 388 (o_callV (e_s1 16 80 2) 2 391)) t_80_0 t_81_391
noncomputable def n_81_386 : e_Y := u_ld f_okA f_l11 n_81_388
theorem t_81_386 : e_Sn 81 386 (e_un n_81_386) := u_ldAT f_l11_eq (s_aload (i := .aload 11) (len := 2) hq_81 (by decide +kernel) rfl (.inl ⟨rfl, rfl⟩) : e_Sn 81 386 (o_load e_okR 11 388)) t_81_388
noncomputable def n_81_385 : e_Y := u_ld f_okA f_l0 n_81_386
theorem t_81_385 : e_Sn 81 385 (e_un n_81_385) := u_ldAT f_l0_eq (s_aload (i := .aload_n 0) (len := 1) hq_81 (by decide +kernel) rfl (.inr ⟨0, rfl, rfl, rfl⟩) : e_Sn 81 385 (o_load e_okR 0 386)) t_81_386
noncomputable def n_81_382 : e_Y := u_old (o_putf (e_f1 15 3) e_okI 385) n_81_385
theorem t_81_382 : e_Sn 81 382 (e_un n_81_382) := u_oldT (s_putf (ty0 := ey_15) (ok := e_okI) (C := er_15) (T := et_15) (N := 8) (ref := "PlateroomprinterModel$Row") (index := 111) (ci := 15) (k := 3) hq_81 ho_81 ⟨rfl, by decide, ei_15, (List.mem_of_getElem? (i := 2127) (by decide +kernel)), .inl rfl⟩ eo_15 en_15 e_oksI (.inl rfl) (by decide +kernel) rfl : e_Sn 81 382 (o_putf (e_f1 15 3) e_okI 385)) t_81_385 (e_cg_putf (e_f1 15 3) e_okI)
noncomputable def n_81_379 : e_Y := u_callV 16 85 4 23 3 n_85_0 n_81_382
theorem t_81_379 : e_Sn 81 379 (e_un n_81_379) := u_callVT rfl (s_callV (ci := 16) (C := er_16) (T := et_16) (N := 5) (index := 210) hq_81 ho_81 hy_85 hp_85 hc_85 hi_85 hd_85 (List.mem_of_getElem? (i := 2291) (by decide +kernel)) hs_85 (List.mem_of_getElem? (i := 90) (by decide +kernel)) rfl (by decide +kernel) rfl : e_Sn 81 379 (o_callV (e_s1 16 85 4) 3 382)) t_85_0 t_81_382
noncomputable def n_81_377 : e_Y := u_push (.inl 2147483747) n_81_379
theorem t_81_377 : e_Sn 81 377 (e_un n_81_377) := u_pushT (s_bipush (n := (99)) hq_81 (by decide +kernel) rfl ⟨by decide +kernel, by decide +kernel⟩ : e_Sn 81 377 (o_push (.inl 2147483747) 379)) t_81_379
noncomputable def n_81_376 : e_Y := u_push (.inl 2147483648) n_81_377
theorem t_81_376 : e_Sn 81 376 (e_un n_81_376) := u_pushT (s_iconst (n := (0)) hq_81 (by decide +kernel) rfl ⟨by decide +kernel, by decide +kernel⟩ : e_Sn 81 376 (o_push (.inl 2147483648) 377)) t_81_377
noncomputable def n_81_375 : e_Y := u_ld f_okA f_l0 n_81_376
theorem t_81_375 : e_Sn 81 375 (e_un n_81_375) := u_ldAT f_l0_eq (s_aload (i := .aload_n 0) (len := 1) hq_81 (by decide +kernel) rfl (.inr ⟨0, rfl, rfl, rfl⟩) : e_Sn 81 375 (o_load e_okR 0 376)) t_81_376
noncomputable def n_81_373 : e_Y := u_ld f_okA f_l11 n_81_375
theorem t_81_373 : e_Sn 81 373 (e_un n_81_373) := u_ldAT f_l11_eq (s_aload (i := .aload 11) (len := 2) hq_81 (by decide +kernel) rfl (.inl ⟨rfl, rfl⟩) : e_Sn 81 373 (o_load e_okR 11 375)) t_81_375
noncomputable def n_81_371 : e_Y := u_st f_okA f_s11 n_81_373
theorem t_81_371 : e_Sn 81 371 (e_un n_81_371) := u_stAT (fun _ _ _ => f_s11_eq) (s_astore (i := .astore 11) (len := 2) hq_81 (by decide +kernel) rfl (.inl ⟨rfl, rfl⟩) : e_Sn 81 371 (o_store e_okR 11 373)) t_81_373
noncomputable def n_81_368 : e_Y := u_tab (o_callI 75 2 2 371)
theorem t_81_368 : e_Sn 81 368 (e_un n_81_368) := u_tabT (s_callI (index := 31) hq_81 ho_81 hy_75 hp_75 hc_75 hi_75 hd_75 (List.mem_of_getElem? (i := 2118) (by decide +kernel)) rfl rfl hs_75 (by decide +kernel) rfl : e_Sn 81 368 (o_callI 75 2 2 371))
noncomputable def n_81_365 : e_Y := u_getf 13 2 (u_old (o_getf (e_f1 13 2) 368) n_81_368) n_81_368
theorem t_81_365 : e_Sn 81 365 (e_un n_81_365) := u_getfT (s_getf (C := er_13) (T := et_13) (N := 3) (ref := "PlateroomprinterModel$Item") (index := 181) (ci := 13) (k := 2) hq_81 ho_81 ⟨rfl, by decide, ei_13, (List.mem_of_getElem? (i := 2241) (by decide +kernel)), .inl rfl⟩ (by decide +kernel) rfl : e_Sn 81 365 (o_getf (e_f1 13 2) 368)) t_81_368
noncomputable def n_81_362 : e_Y := u_callV 16 94 3 22 2 n_94_0 n_81_365
theorem t_81_362 : e_Sn 81 362 (e_un n_81_362) := u_callVT rfl (s_callV (ci := 16) (C := er_16) (T := et_16) (N := 5) (index := 149) hq_81 ho_81 hy_94 hp_94 hc_94 hi_94 hd_94 (List.mem_of_getElem? (i := 2271) (by decide +kernel)) hs_94 (List.mem_of_getElem? (i := 86) (by decide +kernel)) rfl (by decide +kernel) rfl : e_Sn 81 362 (o_callV (e_s1 16 94 3) 2 365)) t_94_0 t_81_365
noncomputable def n_81_361 : e_Y := u_push (.inl 2147483650) n_81_362
theorem t_81_361 : e_Sn 81 361 (e_un n_81_361) := u_pushT (s_iconst (n := (2)) hq_81 (by decide +kernel) rfl ⟨by decide +kernel, by decide +kernel⟩ : e_Sn 81 361 (o_push (.inl 2147483650) 362)) t_81_362
noncomputable def n_81_360 : e_Y := u_ld f_okA f_l0 n_81_361
theorem t_81_360 : e_Sn 81 360 (e_un n_81_360) := u_ldAT f_l0_eq (s_aload (i := .aload_n 0) (len := 1) hq_81 (by decide +kernel) rfl (.inr ⟨0, rfl, rfl, rfl⟩) : e_Sn 81 360 (o_load e_okR 0 361)) t_81_361
noncomputable def n_81_359 : e_Y := u_old (o_dup 360) n_81_360
theorem t_81_359 : e_Sn 81 359 (e_un n_81_359) := u_oldT (s_dup hq_81 (by decide +kernel) rfl : e_Sn 81 359 (o_dup 360)) t_81_360 e_cg_dup
noncomputable def n_81_356 : e_Y := u_tab (o_new 15 8 ef_15 359)
theorem t_81_356 : e_Sn 81 356 (e_un n_81_356) := u_tabT (s_new (index := 29) (ci := 15) (N := 8) (C := er_15) (T := et_15) (ty0 := ey_15) (fv := eg_15) hq_81 ho_81 rfl ei_15 eo_15 (List.mem_of_getElem? (i := 2116) (by decide +kernel)) (List.mem_of_getElem? (i := 2117) (by decide +kernel)) (List.mem_of_getElem? (i := 171) (by decide +kernel)) eh_15 rfl (e_newrel ek_15) (by decide +kernel) rfl : e_Sn 81 356 (o_new 15 8 ef_15 359))
noncomputable def n_81_1 : e_Y := u_tab (o_switch 2147483657 [60, 78, 86, 111, 198, 216, 243, 265, 303, 356, 394] 478)
theorem t_81_1 : e_Sn 81 1 (e_un n_81_1) := u_tabT (s_switch (dflt := (477)) (low := (9)) (hi := (19)) (offs := #[(59), (77), (85), (110), (197), (215), (242), (264), (302), (355), (393)]) (len := 59) hq_81 (by decide +kernel) rfl rfl rfl rfl : e_Sn 81 1 (o_switch 2147483657 [60, 78, 86, 111, 198, 216, 243, 265, 303, 356, 394] 478))
noncomputable def n_81_0 : e_Y := u_ld f_okI f_l1 n_81_1
theorem t_81_0 : e_Sn 81 0 (e_un n_81_0) := u_ldIT f_l1_eq (s_iload (i := .iload_n 1) (len := 1) hq_81 (by decide +kernel) rfl (.inr ⟨1, rfl, rfl, rfl⟩) : e_Sn 81 0 (o_load e_okI 1 1)) t_81_1
noncomputable def e_tb_81 : e_X := (e_br 359 (e_br 356 (e_lf 0 (e_un n_81_0)) (e_lf 356 (e_un n_81_356))) (e_br 371 (e_lf 359 (e_un n_81_359)) (e_lf 371 (e_un n_81_371))))
theorem e_tk_81 : e_Tb 81 e_tb_81 := (e_brT (e_brT (e_lfT t_81_0) (e_lfT t_81_356)) (e_brT (e_lfT t_81_359) (e_lfT t_81_371)))
theorem hq_88 : (e_ml[88]?).map (·.2.1) = some prog_20_method_47_code := rfl
theorem ho_88 : (e_ml[88]?).map (·.1.cls) = some "PlateroomprinterModel$Run" := rfl
theorem hr_88 : (e_ml[88]?).map (·.2.2.2) = some none := rfl
noncomputable def n_88_53 : e_Y := u_tab (o_retv)
theorem t_88_53 : e_Sn 88 53 (e_un n_88_53) := u_tabT (s_vret hq_88 hr_88 (by decide +kernel) : e_Sn 88 53 (o_retv))
noncomputable def n_88_50 : e_Y := u_old (o_putf (e_f1 14 5) e_okR 53) n_88_53
theorem t_88_50 : e_Sn 88 50 (e_un n_88_50) := u_oldT (s_putf (ty0 := ey_14) (ok := e_okR) (C := er_14) (T := et_14) (N := 13) (ref := "PlateroomprinterModel$Machine") (index := 326) (ci := 14) (k := 5) hq_88 ho_88 ⟨rfl, by decide, ei_14, (List.mem_of_getElem? (i := 1906) (by decide +kernel)), .inl rfl⟩ eo_14 en_14 e_oksR (.inl rfl) (by decide +kernel) rfl : e_Sn 88 50 (o_putf (e_f1 14 5) e_okR 53)) t_88_53 (e_cg_putf (e_f1 14 5) e_okR)
noncomputable def n_88_47 : e_Y := u_tab (o_callI 103 1 1 50)
theorem t_88_47 : e_Sn 88 47 (e_un n_88_47) := u_tabT (s_callI (index := 11) hq_88 ho_88 hy_103 hp_103 hc_103 hi_103 hd_103 (List.mem_of_getElem? (i := 2115) (by decide +kernel)) rfl rfl hs_103 (by decide +kernel) rfl : e_Sn 88 47 (o_callI 103 1 1 50))
noncomputable def n_88_46 : e_Y := u_old (o_dup 47) n_88_47
theorem t_88_46 : e_Sn 88 46 (e_un n_88_46) := u_oldT (s_dup hq_88 (by decide +kernel) rfl : e_Sn 88 46 (o_dup 47)) t_88_47 e_cg_dup
noncomputable def n_88_43 : e_Y := u_tab (o_new 19 3 ef_19 46)
theorem t_88_43 : e_Sn 88 43 (e_un n_88_43) := u_tabT (s_new (index := 9) (ci := 19) (N := 3) (C := er_19) (T := et_19) (ty0 := ey_19) (fv := eg_19) hq_88 ho_88 rfl ei_19 eo_19 (List.mem_of_getElem? (i := 2114) (by decide +kernel)) (List.mem_of_getElem? (i := 1751) (by decide +kernel)) (List.mem_of_getElem? (i := 155) (by decide +kernel)) eh_19 rfl (e_newrel ek_19) (by decide +kernel) rfl : e_Sn 88 43 (o_new 19 3 ef_19 46))
noncomputable def n_88_40 : e_Y := u_getf 16 0 (u_old (o_getf (e_f1 16 0) 43) n_88_43) n_88_43
theorem t_88_40 : e_Sn 88 40 (e_un n_88_40) := u_getfT (s_getf (C := er_16) (T := et_16) (N := 5) (ref := "PlateroomprinterModel$Run") (index := 25) (ci := 16) (k := 0) hq_88 ho_88 ⟨rfl, by decide, ei_16, (List.mem_of_getElem? (i := 2150) (by decide +kernel)), .inl rfl⟩ (by decide +kernel) rfl : e_Sn 88 40 (o_getf (e_f1 16 0) 43)) t_88_43
noncomputable def n_88_39 : e_Y := u_ld f_okA f_l0 n_88_40
theorem t_88_39 : e_Sn 88 39 (e_un n_88_39) := u_ldAT f_l0_eq (s_aload (i := .aload_n 0) (len := 1) hq_88 (by decide +kernel) rfl (.inr ⟨0, rfl, rfl, rfl⟩) : e_Sn 88 39 (o_load e_okR 0 40)) t_88_40
noncomputable def n_88_36 : e_Y := u_old (o_putf (e_f1 14 6) e_okR 39) n_88_39
theorem t_88_36 : e_Sn 88 36 (e_un n_88_36) := u_oldT (s_putf (ty0 := ey_14) (ok := e_okR) (C := er_14) (T := et_14) (N := 13) (ref := "PlateroomprinterModel$Machine") (index := 356) (ci := 14) (k := 6) hq_88 ho_88 ⟨rfl, by decide, ei_14, (List.mem_of_getElem? (i := 1909) (by decide +kernel)), .inl rfl⟩ eo_14 en_14 e_oksA (.inl rfl) (by decide +kernel) rfl : e_Sn 88 36 (o_putf (e_f1 14 6) e_okR 39)) t_88_39 (e_cg_putf (e_f1 14 6) e_okR)
noncomputable def n_88_34 : e_Y := u_tab (o_newa 1 (e_I 2147483648) 36)
theorem t_88_34 : e_Sn 88 34 (e_un n_88_34) := u_tabT (s_newZ (List.mem_of_getElem? (i := 1819) (by decide +kernel)) hq_88 (by decide +kernel) rfl : e_Sn 88 34 (o_newa 1 (e_I 2147483648) 36))
noncomputable def n_88_31 : e_Y := u_push (.inl 2147487744) n_88_34
theorem t_88_31 : e_Sn 88 31 (e_un n_88_31) := u_pushT (s_sipush (n := (4096)) hq_88 (by decide +kernel) rfl ⟨by decide +kernel, by decide +kernel⟩ : e_Sn 88 31 (o_push (.inl 2147487744) 34)) t_88_34
noncomputable def n_88_28 : e_Y := u_getf 16 0 (u_old (o_getf (e_f1 16 0) 31) n_88_31) n_88_31
theorem t_88_28 : e_Sn 88 28 (e_un n_88_28) := u_getfT (s_getf (C := er_16) (T := et_16) (N := 5) (ref := "PlateroomprinterModel$Run") (index := 25) (ci := 16) (k := 0) hq_88 ho_88 ⟨rfl, by decide, ei_16, (List.mem_of_getElem? (i := 2150) (by decide +kernel)), .inl rfl⟩ (by decide +kernel) rfl : e_Sn 88 28 (o_getf (e_f1 16 0) 31)) t_88_31
noncomputable def n_88_27 : e_Y := u_ld f_okA f_l0 n_88_28
theorem t_88_27 : e_Sn 88 27 (e_un n_88_27) := u_ldAT f_l0_eq (s_aload (i := .aload_n 0) (len := 1) hq_88 (by decide +kernel) rfl (.inr ⟨0, rfl, rfl, rfl⟩) : e_Sn 88 27 (o_load e_okR 0 28)) t_88_28
noncomputable def n_88_24 : e_Y := u_old (o_putf (e_f1 14 7) e_okR 27) n_88_27
theorem t_88_24 : e_Sn 88 24 (e_un n_88_24) := u_oldT (s_putf (ty0 := ey_14) (ok := e_okR) (C := er_14) (T := et_14) (N := 13) (ref := "PlateroomprinterModel$Machine") (index := 502) (ci := 14) (k := 7) hq_88 ho_88 ⟨rfl, by decide, ei_14, (List.mem_of_getElem? (i := 1912) (by decide +kernel)), .inl rfl⟩ eo_14 en_14 e_oksA (.inl rfl) (by decide +kernel) rfl : e_Sn 88 24 (o_putf (e_f1 14 7) e_okR 27)) t_88_27 (e_cg_putf (e_f1 14 7) e_okR)
noncomputable def n_88_21 : e_Y := u_getf 14 6 (u_old (o_getf (e_f1 14 6) 24) n_88_24) n_88_24
theorem t_88_21 : e_Sn 88 21 (e_un n_88_21) := u_getfT (s_getf (C := er_14) (T := et_14) (N := 13) (ref := "PlateroomprinterModel$Machine") (index := 356) (ci := 14) (k := 6) hq_88 ho_88 ⟨rfl, by decide, ei_14, (List.mem_of_getElem? (i := 1909) (by decide +kernel)), .inl rfl⟩ (by decide +kernel) rfl : e_Sn 88 21 (o_getf (e_f1 14 6) 24)) t_88_24
noncomputable def n_88_18 : e_Y := u_getf 16 0 (u_old (o_getf (e_f1 16 0) 21) n_88_21) n_88_21
theorem t_88_18 : e_Sn 88 18 (e_un n_88_18) := u_getfT (s_getf (C := er_16) (T := et_16) (N := 5) (ref := "PlateroomprinterModel$Run") (index := 25) (ci := 16) (k := 0) hq_88 ho_88 ⟨rfl, by decide, ei_16, (List.mem_of_getElem? (i := 2150) (by decide +kernel)), .inl rfl⟩ (by decide +kernel) rfl : e_Sn 88 18 (o_getf (e_f1 16 0) 21)) t_88_21
noncomputable def n_88_17 : e_Y := u_ld f_okA f_l0 n_88_18
theorem t_88_17 : e_Sn 88 17 (e_un n_88_17) := u_ldAT f_l0_eq (s_aload (i := .aload_n 0) (len := 1) hq_88 (by decide +kernel) rfl (.inr ⟨0, rfl, rfl, rfl⟩) : e_Sn 88 17 (o_load e_okR 0 18)) t_88_18
noncomputable def n_88_14 : e_Y := u_getf 16 0 (u_old (o_getf (e_f1 16 0) 17) n_88_17) n_88_17
theorem t_88_14 : e_Sn 88 14 (e_un n_88_14) := u_getfT (s_getf (C := er_16) (T := et_16) (N := 5) (ref := "PlateroomprinterModel$Run") (index := 25) (ci := 16) (k := 0) hq_88 ho_88 ⟨rfl, by decide, ei_16, (List.mem_of_getElem? (i := 2150) (by decide +kernel)), .inl rfl⟩ (by decide +kernel) rfl : e_Sn 88 14 (o_getf (e_f1 16 0) 17)) t_88_17
noncomputable def n_88_13 : e_Y := u_ld f_okA f_l0 n_88_14
theorem t_88_13 : e_Sn 88 13 (e_un n_88_13) := u_ldAT f_l0_eq (s_aload (i := .aload_n 0) (len := 1) hq_88 (by decide +kernel) rfl (.inr ⟨0, rfl, rfl, rfl⟩) : e_Sn 88 13 (o_load e_okR 0 14)) t_88_14
noncomputable def n_88_10 : e_Y := u_old (o_putf (e_f1 14 8) e_okI 13) n_88_13
theorem t_88_10 : e_Sn 88 10 (e_un n_88_10) := u_oldT (s_putf (ty0 := ey_14) (ok := e_okI) (C := er_14) (T := et_14) (N := 13) (ref := "PlateroomprinterModel$Machine") (index := 499) (ci := 14) (k := 8) hq_88 ho_88 ⟨rfl, by decide, ei_14, (List.mem_of_getElem? (i := 1916) (by decide +kernel)), .inl rfl⟩ eo_14 en_14 e_oksI (.inl rfl) (by decide +kernel) rfl : e_Sn 88 10 (o_putf (e_f1 14 8) e_okI 13)) t_88_13 (e_cg_putf (e_f1 14 8) e_okI)
noncomputable def n_88_9 : e_Y := u_bin a_iadd (u_old (o_iadd 10) n_88_10) n_88_10
theorem t_88_9 : e_Sn 88 9 (e_un n_88_9) := u_iaddT (s_iadd hq_88 (by decide +kernel) rfl : e_Sn 88 9 (o_iadd 10)) t_88_10
noncomputable def n_88_8 : e_Y := u_push (.inl 2147483649) n_88_9
theorem t_88_8 : e_Sn 88 8 (e_un n_88_8) := u_pushT (s_iconst (n := (1)) hq_88 (by decide +kernel) rfl ⟨by decide +kernel, by decide +kernel⟩ : e_Sn 88 8 (o_push (.inl 2147483649) 9)) t_88_9
noncomputable def n_88_5 : e_Y := u_getf 14 8 (u_old (o_getf (e_f1 14 8) 8) n_88_8) n_88_8
theorem t_88_5 : e_Sn 88 5 (e_un n_88_5) := u_getfT (s_getf (C := er_14) (T := et_14) (N := 13) (ref := "PlateroomprinterModel$Machine") (index := 499) (ci := 14) (k := 8) hq_88 ho_88 ⟨rfl, by decide, ei_14, (List.mem_of_getElem? (i := 1916) (by decide +kernel)), .inl rfl⟩ (by decide +kernel) rfl : e_Sn 88 5 (o_getf (e_f1 14 8) 8)) t_88_8
noncomputable def n_88_4 : e_Y := u_old (o_dup 5) n_88_5
theorem t_88_4 : e_Sn 88 4 (e_un n_88_4) := u_oldT (s_dup hq_88 (by decide +kernel) rfl : e_Sn 88 4 (o_dup 5)) t_88_5 e_cg_dup
noncomputable def n_88_1 : e_Y := u_getf 16 0 (u_old (o_getf (e_f1 16 0) 4) n_88_4) n_88_4
theorem t_88_1 : e_Sn 88 1 (e_un n_88_1) := u_getfT (s_getf (C := er_16) (T := et_16) (N := 5) (ref := "PlateroomprinterModel$Run") (index := 25) (ci := 16) (k := 0) hq_88 ho_88 ⟨rfl, by decide, ei_16, (List.mem_of_getElem? (i := 2150) (by decide +kernel)), .inl rfl⟩ (by decide +kernel) rfl : e_Sn 88 1 (o_getf (e_f1 16 0) 4)) t_88_4
noncomputable def n_88_0 : e_Y := u_ld f_okA f_l0 n_88_1
theorem t_88_0 : e_Sn 88 0 (e_un n_88_0) := u_ldAT f_l0_eq (s_aload (i := .aload_n 0) (len := 1) hq_88 (by decide +kernel) rfl (.inr ⟨0, rfl, rfl, rfl⟩) : e_Sn 88 0 (o_load e_okR 0 1)) t_88_1
noncomputable def e_tb_88 : e_X := (e_br 46 (e_br 36 (e_lf 0 (e_un n_88_0)) (e_lf 36 (e_un n_88_36))) (e_br 50 (e_lf 46 (e_un n_88_46)) (e_lf 50 (e_un n_88_50))))
theorem e_tk_88 : e_Tb 88 e_tb_88 := (e_brT (e_brT (e_lfT t_88_0) (e_lfT t_88_36)) (e_brT (e_lfT t_88_46) (e_lfT t_88_50)))
theorem hq_89 : (e_ml[89]?).map (·.2.1) = some prog_20_method_38_code := rfl
theorem ho_89 : (e_ml[89]?).map (·.1.cls) = some "PlateroomprinterModel$Run" := rfl
theorem hr_89 : (e_ml[89]?).map (·.2.2.2) = some none := rfl
noncomputable def n_89_465 : e_Y := u_tab (o_retv)
theorem t_89_465 : e_Sn 89 465 (e_un n_89_465) := u_tabT (s_vret hq_89 hr_89 (by decide +kernel) : e_Sn 89 465 (o_retv))
noncomputable def n_89_462 : e_Y := u_callV 16 88 1 20 1 n_88_0 n_89_465
theorem t_89_462 : e_Sn 89 462 (e_un n_89_462) := u_callVT rfl (s_callV (ci := 16) (C := er_16) (T := et_16) (N := 5) (index := 429) hq_89 ho_89 hy_88 hp_88 hc_88 hi_88 hd_88 (List.mem_of_getElem? (i := 2877) (by decide +kernel)) hs_88 (List.mem_of_getElem? (i := 118) (by decide +kernel)) rfl (by decide +kernel) rfl : e_Sn 89 462 (o_callV (e_s1 16 88 1) 1 465)) t_88_0 t_89_465
noncomputable def n_89_461 : e_Y := u_ld f_okA f_l0 n_89_462
theorem t_89_461 : e_Sn 89 461 (e_un n_89_461) := u_ldAT f_l0_eq (s_aload (i := .aload_n 0) (len := 1) hq_89 (by decide +kernel) rfl (.inr ⟨0, rfl, rfl, rfl⟩) : e_Sn 89 461 (o_load e_okR 0 462)) t_89_462
noncomputable def n_89_9 : e_Y := u_tab (o_switch 2147483683 [92, 92, 125, 187, 187, 239, 269, 269, 291, 307, 322, 337, 353, 370, 392, 406, 435] 461)
theorem t_89_9 : e_Sn 89 9 (e_un n_89_9) := u_tabT (s_switch (dflt := (452)) (low := (35)) (hi := (51)) (offs := #[(83), (83), (116), (178), (178), (230), (260), (260), (282), (298), (313), (328), (344), (361), (383), (397), (426)]) (len := 83) hq_89 (by decide +kernel) rfl rfl rfl rfl : e_Sn 89 9 (o_switch 2147483683 [92, 92, 125, 187, 187, 239, 269, 269, 291, 307, 322, 337, 353, 370, 392, 406, 435] 461))
noncomputable def n_89_8 : e_Y := u_ld f_okI f_l1 n_89_9
theorem t_89_8 : e_Sn 89 8 (e_un n_89_8) := u_ldIT f_l1_eq (s_iload (i := .iload_n 1) (len := 1) hq_89 (by decide +kernel) rfl (.inr ⟨1, rfl, rfl, rfl⟩) : e_Sn 89 8 (o_load e_okI 1 9)) t_89_9
noncomputable def n_89_7 : e_Y := u_st f_okA f_s2 n_89_8
theorem t_89_7 : e_Sn 89 7 (e_un n_89_7) := u_stAT (fun _ _ _ => f_s2_eq) (s_astore (i := .astore_n 2) (len := 1) hq_89 (by decide +kernel) rfl (.inr ⟨2, rfl, rfl, rfl⟩) : e_Sn 89 7 (o_store e_okR 2 8)) t_89_8
noncomputable def n_89_4 : e_Y := u_getf 14 2 (u_old (o_getf (e_f1 14 2) 7) n_89_7) n_89_7
theorem t_89_4 : e_Sn 89 4 (e_un n_89_4) := u_getfT (s_getf (C := er_14) (T := et_14) (N := 13) (ref := "PlateroomprinterModel$Machine") (index := 219) (ci := 14) (k := 2) hq_89 ho_89 ⟨rfl, by decide, ei_14, (List.mem_of_getElem? (i := 1897) (by decide +kernel)), .inl rfl⟩ (by decide +kernel) rfl : e_Sn 89 4 (o_getf (e_f1 14 2) 7)) t_89_7
noncomputable def n_89_1 : e_Y := u_getf 16 0 (u_old (o_getf (e_f1 16 0) 4) n_89_4) n_89_4
theorem t_89_1 : e_Sn 89 1 (e_un n_89_1) := u_getfT (s_getf (C := er_16) (T := et_16) (N := 5) (ref := "PlateroomprinterModel$Run") (index := 25) (ci := 16) (k := 0) hq_89 ho_89 ⟨rfl, by decide, ei_16, (List.mem_of_getElem? (i := 2150) (by decide +kernel)), .inl rfl⟩ (by decide +kernel) rfl : e_Sn 89 1 (o_getf (e_f1 16 0) 4)) t_89_4
noncomputable def n_89_0 : e_Y := u_ld f_okA f_l0 n_89_1
theorem t_89_0 : e_Sn 89 0 (e_un n_89_0) := u_ldAT f_l0_eq (s_aload (i := .aload_n 0) (len := 1) hq_89 (by decide +kernel) rfl (.inr ⟨0, rfl, rfl, rfl⟩) : e_Sn 89 0 (o_load e_okR 0 1)) t_89_1
noncomputable def e_tb_89 : e_X := (e_br 461 (e_lf 0 (e_un n_89_0)) (e_lf 461 (e_un n_89_461)))
theorem e_tk_89 : e_Tb 89 e_tb_89 := (e_brT (e_lfT t_89_0) (e_lfT t_89_461))
theorem hq_87 : (e_ml[87]?).map (·.2.1) = some prog_20_method_17_code := rfl
theorem ho_87 : (e_ml[87]?).map (·.1.cls) = some "PlateroomprinterModel$Run" := rfl
theorem hr_87 : (e_ml[87]?).map (·.2.2.2) = some none := rfl
noncomputable def n_87_61 : e_Y := u_tab (o_retv)
theorem t_87_61 : e_Sn 87 61 (e_un n_87_61) := u_tabT (s_vret hq_87 hr_87 (by decide +kernel) : e_Sn 87 61 (o_retv))
noncomputable def n_87_58 : e_Y := u_callV 16 89 8 27 2 n_89_0 n_87_61
theorem t_87_58 : e_Sn 87 58 (e_un n_87_58) := u_callVT rfl (s_callV (ci := 16) (C := er_16) (T := et_16) (N := 5) (index := 197) hq_87 ho_87 hy_89 hp_89 hc_89 hi_89 hd_89 (List.mem_of_getElem? (i := 2432) (by decide +kernel)) hs_89 (List.mem_of_getElem? (i := 103) (by decide +kernel)) rfl (by decide +kernel) rfl : e_Sn 87 58 (o_callV (e_s1 16 89 8) 2 61)) t_89_0 t_87_61
noncomputable def n_87_57 : e_Y := u_ld f_okI f_l1 n_87_58
theorem t_87_57 : e_Sn 87 57 (e_un n_87_57) := u_ldIT f_l1_eq (s_iload (i := .iload_n 1) (len := 1) hq_87 (by decide +kernel) rfl (.inr ⟨1, rfl, rfl, rfl⟩) : e_Sn 87 57 (o_load e_okI 1 58)) t_87_58
noncomputable def n_87_56 : e_Y := u_ld f_okA f_l0 n_87_57
theorem t_87_56 : e_Sn 87 56 (e_un n_87_56) := u_ldAT f_l0_eq (s_aload (i := .aload_n 0) (len := 1) hq_87 (by decide +kernel) rfl (.inr ⟨0, rfl, rfl, rfl⟩) : e_Sn 87 56 (o_load e_okR 0 57)) t_87_57
noncomputable def n_87_45 : e_Y := u_jmp y_ge (u_old2 (o_clt 48 56) 48 (u_at 48) n_87_56) (u_at 48) n_87_56
theorem t_87_45 : e_Sn 87 45 (e_un n_87_45) := u_cltT rfl (s_cge (off := (11)) hq_87 (by decide +kernel) rfl rfl : e_Sn 87 45 (o_clt 48 56)) u_atT t_87_56
noncomputable def n_87_43 : e_Y := u_push (.inl 2147483683) n_87_45
theorem t_87_43 : e_Sn 87 43 (e_un n_87_43) := u_pushT (s_bipush (n := (35)) hq_87 (by decide +kernel) rfl ⟨by decide +kernel, by decide +kernel⟩ : e_Sn 87 43 (o_push (.inl 2147483683) 45)) t_87_45
noncomputable def n_87_42 : e_Y := u_ld f_okI f_l1 n_87_43
theorem t_87_42 : e_Sn 87 42 (e_un n_87_42) := u_ldIT f_l1_eq (s_iload (i := .iload_n 1) (len := 1) hq_87 (by decide +kernel) rfl (.inr ⟨1, rfl, rfl, rfl⟩) : e_Sn 87 42 (o_load e_okI 1 43)) t_87_43
noncomputable def n_87_31 : e_Y := u_jmp y_ge (u_old2 (o_clt 34 42) 34 (u_at 34) n_87_42) (u_at 34) n_87_42
theorem t_87_31 : e_Sn 87 31 (e_un n_87_31) := u_cltT rfl (s_cge (off := (11)) hq_87 (by decide +kernel) rfl rfl : e_Sn 87 31 (o_clt 34 42)) u_atT t_87_42
noncomputable def n_87_29 : e_Y := u_push (.inl 2147483675) n_87_31
theorem t_87_29 : e_Sn 87 29 (e_un n_87_29) := u_pushT (s_bipush (n := (27)) hq_87 (by decide +kernel) rfl ⟨by decide +kernel, by decide +kernel⟩ : e_Sn 87 29 (o_push (.inl 2147483675) 31)) t_87_31
noncomputable def n_87_28 : e_Y := u_ld f_okI f_l1 n_87_29
theorem t_87_28 : e_Sn 87 28 (e_un n_87_28) := u_ldIT f_l1_eq (s_iload (i := .iload_n 1) (len := 1) hq_87 (by decide +kernel) rfl (.inr ⟨1, rfl, rfl, rfl⟩) : e_Sn 87 28 (o_load e_okI 1 29)) t_87_29
noncomputable def n_87_25 : e_Y := n_87_61
theorem t_87_25 : e_Sn 87 25 (e_un n_87_25) := u_gotoT (s_goto (off := (36)) hq_87 (by decide +kernel) rfl : e_Sn 87 25 (o_goto 61)) t_87_61
noncomputable def n_87_22 : e_Y := u_callV 16 81 14 33 2 n_81_0 n_87_25
theorem t_87_22 : e_Sn 87 22 (e_un n_87_22) := u_callVT rfl (s_callV (ci := 16) (C := er_16) (T := et_16) (N := 5) (index := 188) hq_87 ho_87 hy_81 hp_81 hc_81 hi_81 hd_81 (List.mem_of_getElem? (i := 2283) (by decide +kernel)) hs_81 (List.mem_of_getElem? (i := 88) (by decide +kernel)) rfl (by decide +kernel) rfl : e_Sn 87 22 (o_callV (e_s1 16 81 14) 2 25)) t_81_0 t_87_25
noncomputable def n_87_21 : e_Y := u_ld f_okI f_l1 n_87_22
theorem t_87_21 : e_Sn 87 21 (e_un n_87_21) := u_ldIT f_l1_eq (s_iload (i := .iload_n 1) (len := 1) hq_87 (by decide +kernel) rfl (.inr ⟨1, rfl, rfl, rfl⟩) : e_Sn 87 21 (o_load e_okI 1 22)) t_87_22
noncomputable def n_87_20 : e_Y := u_ld f_okA f_l0 n_87_21
theorem t_87_20 : e_Sn 87 20 (e_un n_87_20) := u_ldAT f_l0_eq (s_aload (i := .aload_n 0) (len := 1) hq_87 (by decide +kernel) rfl (.inr ⟨0, rfl, rfl, rfl⟩) : e_Sn 87 20 (o_load e_okR 0 21)) t_87_21
noncomputable def n_87_17 : e_Y := u_jmp y_ge (u_old2 (o_clt 20 28) 20 n_87_20 n_87_28) n_87_20 n_87_28
theorem t_87_17 : e_Sn 87 17 (e_un n_87_17) := u_cltT rfl (s_cge (off := (11)) hq_87 (by decide +kernel) rfl rfl : e_Sn 87 17 (o_clt 20 28)) t_87_20 t_87_28
noncomputable def n_87_15 : e_Y := u_push (.inl 2147483669) n_87_17
theorem t_87_15 : e_Sn 87 15 (e_un n_87_15) := u_pushT (s_bipush (n := (21)) hq_87 (by decide +kernel) rfl ⟨by decide +kernel, by decide +kernel⟩ : e_Sn 87 15 (o_push (.inl 2147483669) 17)) t_87_17
noncomputable def n_87_14 : e_Y := u_ld f_okI f_l1 n_87_15
theorem t_87_14 : e_Sn 87 14 (e_un n_87_14) := u_ldIT f_l1_eq (s_iload (i := .iload_n 1) (len := 1) hq_87 (by decide +kernel) rfl (.inr ⟨1, rfl, rfl, rfl⟩) : e_Sn 87 14 (o_load e_okI 1 15)) t_87_15
noncomputable def n_87_3 : e_Y := u_jmp y_ge (u_old2 (o_clt 6 14) 6 (u_at 6) n_87_14) (u_at 6) n_87_14
theorem t_87_3 : e_Sn 87 3 (e_un n_87_3) := u_cltT rfl (s_cge (off := (11)) hq_87 (by decide +kernel) rfl rfl : e_Sn 87 3 (o_clt 6 14)) u_atT t_87_14
noncomputable def n_87_1 : e_Y := u_push (.inl 2147483657) n_87_3
theorem t_87_1 : e_Sn 87 1 (e_un n_87_1) := u_pushT (s_bipush (n := (9)) hq_87 (by decide +kernel) rfl ⟨by decide +kernel, by decide +kernel⟩ : e_Sn 87 1 (o_push (.inl 2147483657) 3)) t_87_3
noncomputable def n_87_0 : e_Y := u_ld f_okI f_l1 n_87_1
theorem t_87_0 : e_Sn 87 0 (e_un n_87_0) := u_ldIT f_l1_eq (s_iload (i := .iload_n 1) (len := 1) hq_87 (by decide +kernel) rfl (.inr ⟨1, rfl, rfl, rfl⟩) : e_Sn 87 0 (o_load e_okI 1 1)) t_87_1
noncomputable def e_tb_87 : e_X := (e_lf 0 (e_un n_87_0))
theorem e_tk_87 : e_Tb 87 e_tb_87 := (e_lfT t_87_0)
theorem hq_72 : (e_ml[72]?).map (·.2.1) = some prog_16_method_1_code := rfl
theorem ho_72 : (e_ml[72]?).map (·.1.cls) = some "PlateroomprinterModel$Item" := rfl
theorem hr_72 : (e_ml[72]?).map (·.2.2.2) = some none := rfl
noncomputable def n_72_19 : e_Y := u_tab (o_retv)
theorem t_72_19 : e_Sn 72 19 (e_un n_72_19) := u_tabT (s_vret hq_72 hr_72 (by decide +kernel) : e_Sn 72 19 (o_retv))
noncomputable def n_72_16 : e_Y := u_old (o_putf (e_f1 13 2) e_okR 19) n_72_19
theorem t_72_16 : e_Sn 72 16 (e_un n_72_16) := u_oldT (s_putf (ty0 := ey_13) (ok := e_okR) (C := er_13) (T := et_13) (N := 3) (ref := "PlateroomprinterModel$Item") (index := 16) (ci := 13) (k := 2) hq_72 ho_72 ⟨rfl, by decide, ei_13, (List.mem_of_getElem? (i := 2240) (by decide +kernel)), .inl rfl⟩ eo_13 en_13 e_oksR (.inr ⟨rfl, rfl, rfl⟩) (by decide +kernel) rfl : e_Sn 72 16 (o_putf (e_f1 13 2) e_okR 19)) t_72_19 (e_cg_putf (e_f1 13 2) e_okR)
noncomputable def n_72_15 : e_Y := u_ld f_okA f_l3 n_72_16
theorem t_72_15 : e_Sn 72 15 (e_un n_72_15) := u_ldAT f_l3_eq (s_aload (i := .aload_n 3) (len := 1) hq_72 (by decide +kernel) rfl (.inr ⟨3, rfl, rfl, rfl⟩) : e_Sn 72 15 (o_load e_okR 3 16)) t_72_16
noncomputable def n_72_14 : e_Y := u_ld f_okA f_l0 n_72_15
theorem t_72_14 : e_Sn 72 14 (e_un n_72_14) := u_ldAT f_l0_eq (s_aload (i := .aload_n 0) (len := 1) hq_72 (by decide +kernel) rfl (.inr ⟨0, rfl, rfl, rfl⟩) : e_Sn 72 14 (o_load e_okR 0 15)) t_72_15
noncomputable def n_72_11 : e_Y := u_old (o_putf (e_f1 13 1) e_okI 14) n_72_14
theorem t_72_11 : e_Sn 72 11 (e_un n_72_11) := u_oldT (s_putf (ty0 := ey_13) (ok := e_okI) (C := er_13) (T := et_13) (N := 3) (ref := "PlateroomprinterModel$Item") (index := 13) (ci := 13) (k := 1) hq_72 ho_72 ⟨rfl, by decide, ei_13, (List.mem_of_getElem? (i := 2238) (by decide +kernel)), .inl rfl⟩ eo_13 en_13 e_oksI (.inr ⟨rfl, rfl, rfl⟩) (by decide +kernel) rfl : e_Sn 72 11 (o_putf (e_f1 13 1) e_okI 14)) t_72_14 (e_cg_putf (e_f1 13 1) e_okI)
noncomputable def n_72_10 : e_Y := u_ld f_okI f_l2 n_72_11
theorem t_72_10 : e_Sn 72 10 (e_un n_72_10) := u_ldIT f_l2_eq (s_iload (i := .iload_n 2) (len := 1) hq_72 (by decide +kernel) rfl (.inr ⟨2, rfl, rfl, rfl⟩) : e_Sn 72 10 (o_load e_okI 2 11)) t_72_11
noncomputable def n_72_9 : e_Y := u_ld f_okA f_l0 n_72_10
theorem t_72_9 : e_Sn 72 9 (e_un n_72_9) := u_ldAT f_l0_eq (s_aload (i := .aload_n 0) (len := 1) hq_72 (by decide +kernel) rfl (.inr ⟨0, rfl, rfl, rfl⟩) : e_Sn 72 9 (o_load e_okR 0 10)) t_72_10
noncomputable def n_72_6 : e_Y := u_old (o_putf (e_f1 13 0) e_okI 9) n_72_9
theorem t_72_6 : e_Sn 72 6 (e_un n_72_6) := u_oldT (s_putf (ty0 := ey_13) (ok := e_okI) (C := er_13) (T := et_13) (N := 3) (ref := "PlateroomprinterModel$Item") (index := 7) (ci := 13) (k := 0) hq_72 ho_72 ⟨rfl, by decide, ei_13, (List.mem_of_getElem? (i := 2236) (by decide +kernel)), .inl rfl⟩ eo_13 en_13 e_oksI (.inr ⟨rfl, rfl, rfl⟩) (by decide +kernel) rfl : e_Sn 72 6 (o_putf (e_f1 13 0) e_okI 9)) t_72_9 (e_cg_putf (e_f1 13 0) e_okI)
noncomputable def n_72_5 : e_Y := u_ld f_okI f_l1 n_72_6
theorem t_72_5 : e_Sn 72 5 (e_un n_72_5) := u_ldIT f_l1_eq (s_iload (i := .iload_n 1) (len := 1) hq_72 (by decide +kernel) rfl (.inr ⟨1, rfl, rfl, rfl⟩) : e_Sn 72 5 (o_load e_okI 1 6)) t_72_6
noncomputable def n_72_4 : e_Y := u_ld f_okA f_l0 n_72_5
theorem t_72_4 : e_Sn 72 4 (e_un n_72_4) := u_ldAT f_l0_eq (s_aload (i := .aload_n 0) (len := 1) hq_72 (by decide +kernel) rfl (.inr ⟨0, rfl, rfl, rfl⟩) : e_Sn 72 4 (o_load e_okR 0 5)) t_72_5
noncomputable def n_72_1 : e_Y := u_tab (o_oinit 4)
theorem t_72_1 : e_Sn 72 1 (e_un n_72_1) := u_tabT (s_oinit (idx := 1) hq_72 ho_72 (List.mem_of_getElem? (i := 2235) (by decide +kernel)) (List.mem_of_getElem? (i := 190) (by decide +kernel)) (List.mem_of_getElem? (i := 191) (by decide +kernel)) (by decide +kernel) rfl : e_Sn 72 1 (o_oinit 4))
noncomputable def n_72_0 : e_Y := u_ld f_okA f_l0 n_72_1
theorem t_72_0 : e_Sn 72 0 (e_un n_72_0) := u_ldAT f_l0_eq (s_aload (i := .aload_n 0) (len := 1) hq_72 (by decide +kernel) rfl (.inr ⟨0, rfl, rfl, rfl⟩) : e_Sn 72 0 (o_load e_okR 0 1)) t_72_1
noncomputable def e_tb_72 : e_X := (e_br 4 (e_lf 0 (e_un n_72_0)) (e_lf 4 (e_un n_72_4)))
theorem e_tk_72 : e_Tb 72 e_tb_72 := (e_brT (e_lfT t_72_0) (e_lfT t_72_4))
theorem hq_90 : (e_ml[90]?).map (·.2.1) = some prog_20_method_16_code := rfl
theorem ho_90 : (e_ml[90]?).map (·.1.cls) = some "PlateroomprinterModel$Run" := rfl
theorem hr_90 : (e_ml[90]?).map (·.2.2.2) = some (some (.object "PlateroomprinterModel$Item")) := rfl
noncomputable def n_90_103 : e_Y := (u_at 10)
theorem t_90_103 : e_Sn 90 103 (e_un n_90_103) := u_gotoT (s_goto (off := (-93)) hq_90 (by decide +kernel) rfl : e_Sn 90 103 (o_goto 10)) u_atT
noncomputable def n_90_102 : e_Y := u_pop n_90_103
theorem t_90_102 : e_Sn 90 102 (e_un n_90_102) := u_popT (s_pop hq_90 (by decide +kernel) rfl : e_Sn 90 102 (o_pop 103)) t_90_103
noncomputable def n_90_99 : e_Y := u_callV 19 104 2 21 2 n_104_0 n_90_102
theorem t_90_99 : e_Sn 90 99 (e_un n_90_99) := u_callVT rfl (s_callV (ci := 19) (C := er_19) (T := et_19) (N := 3) (index := 34) hq_90 ho_90 hy_104 hp_104 hc_104 hi_104 hd_104 (List.mem_of_getElem? (i := 2149) (by decide +kernel)) hs_104 (List.mem_of_getElem? (i := 1822) (by decide +kernel)) rfl (by decide +kernel) rfl : e_Sn 90 99 (o_callV (e_s1 19 104 2) 2 102)) t_104_0 t_90_102
noncomputable def n_90_97 : e_Y := u_ld f_okA f_l4 n_90_99
theorem t_90_97 : e_Sn 90 97 (e_un n_90_97) := u_ldAT f_l4_eq (s_aload (i := .aload 4) (len := 2) hq_90 (by decide +kernel) rfl (.inl ⟨rfl, rfl⟩) : e_Sn 90 97 (o_load e_okR 4 99)) t_90_99
noncomputable def n_90_96 : e_Y := u_ld f_okA f_l2 n_90_97
theorem t_90_96 : e_Sn 90 96 (e_un n_90_96) := u_ldAT f_l2_eq (s_aload (i := .aload_n 2) (len := 1) hq_90 (by decide +kernel) rfl (.inr ⟨2, rfl, rfl, rfl⟩) : e_Sn 90 96 (o_load e_okR 2 97)) t_90_97
noncomputable def n_90_95 : e_Y := u_retA
theorem t_90_95 : e_Sn 90 95 (e_un n_90_95) := u_retAT (s_aret (.inl ⟨_, rfl⟩) hq_90 hr_90 (by decide +kernel) : e_Sn 90 95 (o_ret e_okR))
noncomputable def n_90_92 : e_Y := u_tab (o_callI 72 4 4 95)
theorem t_90_92 : e_Sn 90 92 (e_un n_90_92) := u_tabT (s_callI (index := 135) hq_90 ho_90 hy_72 hp_72 hc_72 hi_72 hd_72 (List.mem_of_getElem? (i := 2232) (by decide +kernel)) rfl rfl hs_72 (by decide +kernel) rfl : e_Sn 90 92 (o_callI 72 4 4 95))
noncomputable def n_90_91 : e_Y := u_ld f_okA f_l2 n_90_92
theorem t_90_91 : e_Sn 90 91 (e_un n_90_91) := u_ldAT f_l2_eq (s_aload (i := .aload_n 2) (len := 1) hq_90 (by decide +kernel) rfl (.inr ⟨2, rfl, rfl, rfl⟩) : e_Sn 90 91 (o_load e_okR 2 92)) t_90_92
noncomputable def n_90_90 : e_Y := u_push (.inl 2147483648) n_90_91
theorem t_90_90 : e_Sn 90 90 (e_un n_90_90) := u_pushT (s_iconst (n := (0)) hq_90 (by decide +kernel) rfl ⟨by decide +kernel, by decide +kernel⟩ : e_Sn 90 90 (o_push (.inl 2147483648) 91)) t_90_91
noncomputable def n_90_89 : e_Y := u_push (.inl 2147483650) n_90_90
theorem t_90_89 : e_Sn 90 89 (e_un n_90_89) := u_pushT (s_iconst (n := (2)) hq_90 (by decide +kernel) rfl ⟨by decide +kernel, by decide +kernel⟩ : e_Sn 90 89 (o_push (.inl 2147483650) 90)) t_90_90
noncomputable def n_90_88 : e_Y := u_old (o_dup 89) n_90_89
theorem t_90_88 : e_Sn 90 88 (e_un n_90_88) := u_oldT (s_dup hq_90 (by decide +kernel) rfl : e_Sn 90 88 (o_dup 89)) t_90_89 e_cg_dup
noncomputable def n_90_85 : e_Y := u_tab (o_new 13 3 ef_13 88)
theorem t_90_85 : e_Sn 90 85 (e_un n_90_85) := u_tabT (s_new (index := 133) (ci := 13) (N := 3) (C := er_13) (T := et_13) (ty0 := ey_13) (fv := eg_13) hq_90 ho_90 rfl ei_13 eo_13 (List.mem_of_getElem? (i := 2230) (by decide +kernel)) (List.mem_of_getElem? (i := 2231) (by decide +kernel)) (List.mem_of_getElem? (i := 173) (by decide +kernel)) eh_13 rfl (e_newrel ek_13) (by decide +kernel) rfl : e_Sn 90 85 (o_new 13 3 ef_13 88))
noncomputable def n_90_82 : e_Y := u_if y_ne0 (u_old2 (o_ifeq 85 96) 85 n_90_85 n_90_96) n_90_85 n_90_96
theorem t_90_82 : e_Sn 90 82 (e_un n_90_82) := u_ifeqT rfl (s_ifne (off := (14)) hq_90 (by decide +kernel) rfl rfl : e_Sn 90 82 (o_ifeq 85 96)) t_90_85 t_90_96
noncomputable def n_90_81 : e_Y := u_ld f_okI f_l3 n_90_82
theorem t_90_81 : e_Sn 90 81 (e_un n_90_81) := u_ldIT f_l3_eq (s_iload (i := .iload_n 3) (len := 1) hq_90 (by decide +kernel) rfl (.inr ⟨3, rfl, rfl, rfl⟩) : e_Sn 90 81 (o_load e_okI 3 82)) t_90_82
noncomputable def n_90_80 : e_Y := u_st f_okI f_s3 n_90_81
theorem t_90_80 : e_Sn 90 80 (e_un n_90_80) := u_stIT (fun _ _ _ => f_s3_eq) (s_istore (i := .istore_n 3) (len := 1) hq_90 (by decide +kernel) rfl (.inr ⟨3, rfl, rfl, rfl⟩) : e_Sn 90 80 (o_store e_okI 3 81)) t_90_81
noncomputable def n_90_79 : e_Y := u_bin a_iadd (u_old (o_iadd 80) n_90_80) n_90_80
theorem t_90_79 : e_Sn 90 79 (e_un n_90_79) := u_iaddT (s_iadd hq_90 (by decide +kernel) rfl : e_Sn 90 79 (o_iadd 80)) t_90_80
noncomputable def n_90_78 : e_Y := u_push (.inl 2147483648) n_90_79
theorem t_90_78 : e_Sn 90 78 (e_un n_90_78) := u_pushT (s_iconst (n := (0)) hq_90 (by decide +kernel) rfl ⟨by decide +kernel, by decide +kernel⟩ : e_Sn 90 78 (o_push (.inl 2147483648) 79)) t_90_79
noncomputable def n_90_75 : e_Y := n_90_79
theorem t_90_75 : e_Sn 90 75 (e_un n_90_75) := u_gotoT (s_goto (off := (4)) hq_90 (by decide +kernel) rfl : e_Sn 90 75 (o_goto 79)) t_90_79
noncomputable def n_90_74 : e_Y := u_push (.inl 2147483647) n_90_75
theorem t_90_74 : e_Sn 90 74 (e_un n_90_74) := u_pushT (s_iconst (n := (-1)) hq_90 (by decide +kernel) rfl ⟨by decide +kernel, by decide +kernel⟩ : e_Sn 90 74 (o_push (.inl 2147483647) 75)) t_90_75
noncomputable def n_90_71 : e_Y := u_jmp y_ne (u_old2 (o_ceq 74 78) 74 n_90_74 n_90_78) n_90_74 n_90_78
theorem t_90_71 : e_Sn 90 71 (e_un n_90_71) := u_ceqT rfl (s_cne (off := (7)) hq_90 (by decide +kernel) rfl rfl : e_Sn 90 71 (o_ceq 74 78)) t_90_74 t_90_78
noncomputable def n_90_70 : e_Y := u_push (.inl 2147483653) n_90_71
theorem t_90_70 : e_Sn 90 70 (e_un n_90_70) := u_pushT (s_iconst (n := (5)) hq_90 (by decide +kernel) rfl ⟨by decide +kernel, by decide +kernel⟩ : e_Sn 90 70 (o_push (.inl 2147483653) 71)) t_90_71
noncomputable def n_90_69 : e_Y := u_ald 0 (u_old (o_ald e_fcs 70) n_90_70) n_90_70
theorem t_90_69 : e_Sn 90 69 (e_un n_90_69) := u_aldT (s_iald hq_90 (by decide +kernel) rfl : e_Sn 90 69 (o_ald e_fcs 70)) t_90_70
noncomputable def n_90_68 : e_Y := u_push (.inl 2147483648) n_90_69
theorem t_90_68 : e_Sn 90 68 (e_un n_90_68) := u_pushT (s_iconst (n := (0)) hq_90 (by decide +kernel) rfl ⟨by decide +kernel, by decide +kernel⟩ : e_Sn 90 68 (o_push (.inl 2147483648) 69)) t_90_69
noncomputable def n_90_66 : e_Y := u_ld f_okA f_l4 n_90_68
theorem t_90_66 : e_Sn 90 66 (e_un n_90_66) := u_ldAT f_l4_eq (s_aload (i := .aload 4) (len := 2) hq_90 (by decide +kernel) rfl (.inl ⟨rfl, rfl⟩) : e_Sn 90 66 (o_load e_okR 4 68)) t_90_68
noncomputable def n_90_63 : e_Y := n_90_79
theorem t_90_63 : e_Sn 90 63 (e_un n_90_63) := u_gotoT (s_goto (off := (16)) hq_90 (by decide +kernel) rfl : e_Sn 90 63 (o_goto 79)) t_90_79
noncomputable def n_90_62 : e_Y := u_push (.inl 2147483649) n_90_63
theorem t_90_62 : e_Sn 90 62 (e_un n_90_62) := u_pushT (s_iconst (n := (1)) hq_90 (by decide +kernel) rfl ⟨by decide +kernel, by decide +kernel⟩ : e_Sn 90 62 (o_push (.inl 2147483649) 63)) t_90_63
noncomputable def n_90_59 : e_Y := u_jmp y_ne (u_old2 (o_ceq 62 66) 62 n_90_62 n_90_66) n_90_62 n_90_66
theorem t_90_59 : e_Sn 90 59 (e_un n_90_59) := u_ceqT rfl (s_cne (off := (7)) hq_90 (by decide +kernel) rfl rfl : e_Sn 90 59 (o_ceq 62 66)) t_90_62 t_90_66
noncomputable def n_90_58 : e_Y := u_push (.inl 2147483652) n_90_59
theorem t_90_58 : e_Sn 90 58 (e_un n_90_58) := u_pushT (s_iconst (n := (4)) hq_90 (by decide +kernel) rfl ⟨by decide +kernel, by decide +kernel⟩ : e_Sn 90 58 (o_push (.inl 2147483652) 59)) t_90_59
noncomputable def n_90_57 : e_Y := u_ald 0 (u_old (o_ald e_fcs 58) n_90_58) n_90_58
theorem t_90_57 : e_Sn 90 57 (e_un n_90_57) := u_aldT (s_iald hq_90 (by decide +kernel) rfl : e_Sn 90 57 (o_ald e_fcs 58)) t_90_58
noncomputable def n_90_56 : e_Y := u_push (.inl 2147483648) n_90_57
theorem t_90_56 : e_Sn 90 56 (e_un n_90_56) := u_pushT (s_iconst (n := (0)) hq_90 (by decide +kernel) rfl ⟨by decide +kernel, by decide +kernel⟩ : e_Sn 90 56 (o_push (.inl 2147483648) 57)) t_90_57
noncomputable def n_90_54 : e_Y := u_ld f_okA f_l4 n_90_56
theorem t_90_54 : e_Sn 90 54 (e_un n_90_54) := u_ldAT f_l4_eq (s_aload (i := .aload 4) (len := 2) hq_90 (by decide +kernel) rfl (.inl ⟨rfl, rfl⟩) : e_Sn 90 54 (o_load e_okR 4 56)) t_90_56
noncomputable def n_90_53 : e_Y := u_ld f_okI f_l3 n_90_54
theorem t_90_53 : e_Sn 90 53 (e_un n_90_53) := u_ldIT f_l3_eq (s_iload (i := .iload_n 3) (len := 1) hq_90 (by decide +kernel) rfl (.inr ⟨3, rfl, rfl, rfl⟩) : e_Sn 90 53 (o_load e_okI 3 54)) t_90_54
noncomputable def n_90_50 : e_Y := u_old (o_putf (e_f1 15 1) e_okI 53) n_90_53
theorem t_90_50 : e_Sn 90 50 (e_un n_90_50) := u_oldT (s_putf (ty0 := ey_15) (ok := e_okI) (C := er_15) (T := et_15) (N := 8) (ref := "PlateroomprinterModel$Row") (index := 50) (ci := 15) (k := 1) hq_90 ho_90 ⟨rfl, by decide, ei_15, (List.mem_of_getElem? (i := 2125) (by decide +kernel)), .inl rfl⟩ eo_15 en_15 e_oksI (.inl rfl) (by decide +kernel) rfl : e_Sn 90 50 (o_putf (e_f1 15 1) e_okI 53)) t_90_53 (e_cg_putf (e_f1 15 1) e_okI)
noncomputable def n_90_49 : e_Y := u_bin a_iadd (u_old (o_iadd 50) n_90_50) n_90_50
theorem t_90_49 : e_Sn 90 49 (e_un n_90_49) := u_iaddT (s_iadd hq_90 (by decide +kernel) rfl : e_Sn 90 49 (o_iadd 50)) t_90_50
noncomputable def n_90_48 : e_Y := u_push (.inl 2147483649) n_90_49
theorem t_90_48 : e_Sn 90 48 (e_un n_90_48) := u_pushT (s_iconst (n := (1)) hq_90 (by decide +kernel) rfl ⟨by decide +kernel, by decide +kernel⟩ : e_Sn 90 48 (o_push (.inl 2147483649) 49)) t_90_49
noncomputable def n_90_45 : e_Y := u_getf 15 1 (u_old (o_getf (e_f1 15 1) 48) n_90_48) n_90_48
theorem t_90_45 : e_Sn 90 45 (e_un n_90_45) := u_getfT (s_getf (C := er_15) (T := et_15) (N := 8) (ref := "PlateroomprinterModel$Row") (index := 50) (ci := 15) (k := 1) hq_90 ho_90 ⟨rfl, by decide, ei_15, (List.mem_of_getElem? (i := 2125) (by decide +kernel)), .inl rfl⟩ (by decide +kernel) rfl : e_Sn 90 45 (o_getf (e_f1 15 1) 48)) t_90_48
noncomputable def n_90_44 : e_Y := u_old (o_dup 45) n_90_45
theorem t_90_44 : e_Sn 90 44 (e_un n_90_44) := u_oldT (s_dup hq_90 (by decide +kernel) rfl : e_Sn 90 44 (o_dup 45)) t_90_45 e_cg_dup
noncomputable def n_90_43 : e_Y := u_ld f_okA f_l1 n_90_44
theorem t_90_43 : e_Sn 90 43 (e_un n_90_43) := u_ldAT f_l1_eq (s_aload (i := .aload_n 1) (len := 1) hq_90 (by decide +kernel) rfl (.inr ⟨1, rfl, rfl, rfl⟩) : e_Sn 90 43 (o_load e_okR 1 44)) t_90_44
noncomputable def n_90_41 : e_Y := u_st f_okA f_s4 n_90_43
theorem t_90_41 : e_Sn 90 41 (e_un n_90_41) := u_stAT (fun _ _ _ => f_s4_eq) (s_astore (i := .astore 4) (len := 2) hq_90 (by decide +kernel) rfl (.inl ⟨rfl, rfl⟩) : e_Sn 90 41 (o_store e_okR 4 43)) t_90_43
noncomputable def n_90_38 : e_Y := u_old (o_cast 100 41) n_90_41
theorem t_90_38 : e_Sn 90 38 (e_un n_90_38) := u_oldT (s_cast (index := 63) hq_90 ho_90 (List.mem_of_getElem? (i := 2254) (by decide +kernel)) (.inr ⟨rfl, rfl⟩) (by decide +kernel) rfl : e_Sn 90 38 (o_cast 100 41)) t_90_41 (e_cg_cast 100)
noncomputable def n_90_35 : e_Y := u_callV 19 108 2 21 2 n_108_0 n_90_38
theorem t_90_35 : e_Sn 90 35 (e_un n_90_35) := u_callVT rfl (s_callV (ci := 19) (C := er_19) (T := et_19) (N := 3) (index := 42) hq_90 ho_90 hy_108 hp_108 hc_108 hi_108 hd_108 (List.mem_of_getElem? (i := 2182) (by decide +kernel)) hs_108 (List.mem_of_getElem? (i := 2051) (by decide +kernel)) rfl (by decide +kernel) rfl : e_Sn 90 35 (o_callV (e_s1 19 108 2) 2 38)) t_108_0 t_90_38
noncomputable def n_90_32 : e_Y := u_getf 15 1 (u_old (o_getf (e_f1 15 1) 35) n_90_35) n_90_35
theorem t_90_32 : e_Sn 90 32 (e_un n_90_32) := u_getfT (s_getf (C := er_15) (T := et_15) (N := 8) (ref := "PlateroomprinterModel$Row") (index := 50) (ci := 15) (k := 1) hq_90 ho_90 ⟨rfl, by decide, ei_15, (List.mem_of_getElem? (i := 2125) (by decide +kernel)), .inl rfl⟩ (by decide +kernel) rfl : e_Sn 90 32 (o_getf (e_f1 15 1) 35)) t_90_35
noncomputable def n_90_31 : e_Y := u_ld f_okA f_l1 n_90_32
theorem t_90_31 : e_Sn 90 31 (e_un n_90_31) := u_ldAT f_l1_eq (s_aload (i := .aload_n 1) (len := 1) hq_90 (by decide +kernel) rfl (.inr ⟨1, rfl, rfl, rfl⟩) : e_Sn 90 31 (o_load e_okR 1 32)) t_90_32
noncomputable def n_90_28 : e_Y := u_getf 15 0 (u_old (o_getf (e_f1 15 0) 31) n_90_31) n_90_31
theorem t_90_28 : e_Sn 90 28 (e_un n_90_28) := u_getfT (s_getf (C := er_15) (T := et_15) (N := 8) (ref := "PlateroomprinterModel$Row") (index := 60) (ci := 15) (k := 0) hq_90 ho_90 ⟨rfl, by decide, ei_15, (List.mem_of_getElem? (i := 2123) (by decide +kernel)), .inl rfl⟩ (by decide +kernel) rfl : e_Sn 90 28 (o_getf (e_f1 15 0) 31)) t_90_31
noncomputable def n_90_27 : e_Y := u_ld f_okA f_l1 n_90_28
theorem t_90_27 : e_Sn 90 27 (e_un n_90_27) := u_ldAT f_l1_eq (s_aload (i := .aload_n 1) (len := 1) hq_90 (by decide +kernel) rfl (.inr ⟨1, rfl, rfl, rfl⟩) : e_Sn 90 27 (o_load e_okR 1 28)) t_90_28
noncomputable def n_90_24 : e_Y := u_callS 66 2 21 2 n_66_0 n_90_27
theorem t_90_24 : e_Sn 90 24 (e_un n_90_24) := u_callST rfl (s_callSN (host := "PlateroomprinterModel") (index := 73) hq_90 ho_90 hy_66 hp_66 hc_66 hi_66 hd_66 (List.mem_of_getElem? (i := 2203) (by decide +kernel)) hs_66 (by decide +kernel) rfl : e_Sn 90 24 (o_callS 66 2 2 27)) t_66_0 t_90_27
noncomputable def n_90_22 : e_Y := u_push (.inl 2147483654) n_90_24
theorem t_90_22 : e_Sn 90 22 (e_un n_90_22) := u_pushT (s_bipush (n := (6)) hq_90 (by decide +kernel) rfl ⟨by decide +kernel, by decide +kernel⟩ : e_Sn 90 22 (o_push (.inl 2147483654) 24)) t_90_24
noncomputable def n_90_18 : e_Y := n_90_22
theorem t_90_18 : e_Sn 90 18 (e_un n_90_18) := u_gotoT (s_goto (off := (4)) hq_90 (by decide +kernel) rfl : e_Sn 90 18 (o_goto 22)) t_90_22
noncomputable def n_90_17 : e_Y := u_push (.inl 2147483649) n_90_18
theorem t_90_17 : e_Sn 90 17 (e_un n_90_17) := u_pushT (s_iconst (n := (1)) hq_90 (by decide +kernel) rfl ⟨by decide +kernel, by decide +kernel⟩ : e_Sn 90 17 (o_push (.inl 2147483649) 18)) t_90_18
noncomputable def n_90_14 : e_Y := u_if y_ne0 (u_old2 (o_ifeq 17 21) 17 n_90_17 (u_at 21)) n_90_17 (u_at 21)
theorem t_90_14 : e_Sn 90 14 (e_un n_90_14) := u_ifeqT rfl (s_ifne (off := (7)) hq_90 (by decide +kernel) rfl rfl : e_Sn 90 14 (o_ifeq 17 21)) t_90_17 u_atT
noncomputable def n_90_11 : e_Y := u_callV 15 76 1 20 1 n_76_0 n_90_14
theorem t_90_11 : e_Sn 90 11 (e_un n_90_11) := u_callVT rfl (s_callV (ci := 15) (C := er_15) (T := et_15) (N := 8) (index := 84) hq_90 ho_90 hy_76 hp_76 hc_76 hi_76 hd_76 (List.mem_of_getElem? (i := 2183) (by decide +kernel)) hs_76 (List.mem_of_getElem? (i := 2185) (by decide +kernel)) rfl (by decide +kernel) rfl : e_Sn 90 11 (o_callV (e_s1 15 76 1) 1 14)) t_76_0 t_90_14
noncomputable def n_90_10 : e_Y := u_ld f_okA f_l1 n_90_11
theorem t_90_10 : e_Sn 90 10 (e_un n_90_10) := u_ldAT f_l1_eq (s_aload (i := .aload_n 1) (len := 1) hq_90 (by decide +kernel) rfl (.inr ⟨1, rfl, rfl, rfl⟩) : e_Sn 90 10 (o_load e_okR 1 11)) t_90_11
noncomputable def n_90_9 : e_Y := u_st f_okI f_s3 n_90_10
theorem t_90_9 : e_Sn 90 9 (e_un n_90_9) := u_stIT (fun _ _ _ => f_s3_eq) (s_istore (i := .istore_n 3) (len := 1) hq_90 (by decide +kernel) rfl (.inr ⟨3, rfl, rfl, rfl⟩) : e_Sn 90 9 (o_store e_okI 3 10)) t_90_10
noncomputable def n_90_8 : e_Y := u_push (.inl 2147483649) n_90_9
theorem t_90_8 : e_Sn 90 8 (e_un n_90_8) := u_pushT (s_iconst (n := (1)) hq_90 (by decide +kernel) rfl ⟨by decide +kernel, by decide +kernel⟩ : e_Sn 90 8 (o_push (.inl 2147483649) 9)) t_90_9
noncomputable def n_90_7 : e_Y := u_st f_okA f_s2 n_90_8
theorem t_90_7 : e_Sn 90 7 (e_un n_90_7) := u_stAT (fun _ _ _ => f_s2_eq) (s_astore (i := .astore_n 2) (len := 1) hq_90 (by decide +kernel) rfl (.inr ⟨2, rfl, rfl, rfl⟩) : e_Sn 90 7 (o_store e_okR 2 8)) t_90_8
noncomputable def n_90_4 : e_Y := u_tab (o_callI 103 1 1 7)
theorem t_90_4 : e_Sn 90 4 (e_un n_90_4) := u_tabT (s_callI (index := 11) hq_90 ho_90 hy_103 hp_103 hc_103 hi_103 hd_103 (List.mem_of_getElem? (i := 2115) (by decide +kernel)) rfl rfl hs_103 (by decide +kernel) rfl : e_Sn 90 4 (o_callI 103 1 1 7))
noncomputable def n_90_3 : e_Y := u_old (o_dup 4) n_90_4
theorem t_90_3 : e_Sn 90 3 (e_un n_90_3) := u_oldT (s_dup hq_90 (by decide +kernel) rfl : e_Sn 90 3 (o_dup 4)) t_90_4 e_cg_dup
noncomputable def n_90_0 : e_Y := u_tab (o_new 19 3 ef_19 3)
theorem t_90_0 : e_Sn 90 0 (e_un n_90_0) := u_tabT (s_new (index := 9) (ci := 19) (N := 3) (C := er_19) (T := et_19) (ty0 := ey_19) (fv := eg_19) hq_90 ho_90 rfl ei_19 eo_19 (List.mem_of_getElem? (i := 2114) (by decide +kernel)) (List.mem_of_getElem? (i := 1751) (by decide +kernel)) (List.mem_of_getElem? (i := 155) (by decide +kernel)) eh_19 rfl (e_newrel ek_19) (by decide +kernel) rfl : e_Sn 90 0 (o_new 19 3 ef_19 3))
noncomputable def e_tb_90 : e_X := (e_br 10 (e_br 3 (e_lf 0 (e_un n_90_0)) (e_br 7 (e_lf 3 (e_un n_90_3)) (e_lf 7 (e_un n_90_7)))) (e_br 88 (e_lf 10 (e_un n_90_10)) (e_br 95 (e_lf 88 (e_un n_90_88)) (e_lf 95 (e_un n_90_95)))))
theorem e_tk_90 : e_Tb 90 e_tb_90 := (e_brT (e_brT (e_lfT t_90_0) (e_brT (e_lfT t_90_3) (e_lfT t_90_7))) (e_brT (e_lfT t_90_10) (e_brT (e_lfT t_90_88) (e_lfT t_90_95))))
theorem hq_92 : (e_ml[92]?).map (·.2.1) = some prog_20_method_8_code := rfl
theorem ho_92 : (e_ml[92]?).map (·.1.cls) = some "PlateroomprinterModel$Run" := rfl
theorem hr_92 : (e_ml[92]?).map (·.2.2.2) = some none := rfl
noncomputable def n_92_37 : e_Y := u_tab (o_retv)
theorem t_92_37 : e_Sn 92 37 (e_un n_92_37) := u_tabT (s_vret hq_92 hr_92 (by decide +kernel) : e_Sn 92 37 (o_retv))
noncomputable def n_92_36 : e_Y := u_pop n_92_37
theorem t_92_36 : e_Sn 92 36 (e_un n_92_36) := u_popT (s_pop hq_92 (by decide +kernel) rfl : e_Sn 92 36 (o_pop 37)) t_92_37
noncomputable def n_92_33 : e_Y := u_callV 19 104 2 21 2 n_104_0 n_92_36
theorem t_92_33 : e_Sn 92 33 (e_un n_92_33) := u_callVT rfl (s_callV (ci := 19) (C := er_19) (T := et_19) (N := 3) (index := 34) hq_92 ho_92 hy_104 hp_104 hc_104 hi_104 hd_104 (List.mem_of_getElem? (i := 2149) (by decide +kernel)) hs_104 (List.mem_of_getElem? (i := 1822) (by decide +kernel)) rfl (by decide +kernel) rfl : e_Sn 92 33 (o_callV (e_s1 19 104 2) 2 36)) t_104_0 t_92_36
noncomputable def n_92_32 : e_Y := u_ld f_okA f_l1 n_92_33
theorem t_92_32 : e_Sn 92 32 (e_un n_92_32) := u_ldAT f_l1_eq (s_aload (i := .aload_n 1) (len := 1) hq_92 (by decide +kernel) rfl (.inr ⟨1, rfl, rfl, rfl⟩) : e_Sn 92 32 (o_load e_okR 1 33)) t_92_33
noncomputable def n_92_29 : e_Y := u_getf 14 0 (u_old (o_getf (e_f1 14 0) 32) n_92_32) n_92_32
theorem t_92_29 : e_Sn 92 29 (e_un n_92_29) := u_getfT (s_getf (C := er_14) (T := et_14) (N := 13) (ref := "PlateroomprinterModel$Machine") (index := 122) (ci := 14) (k := 0) hq_92 ho_92 ⟨rfl, by decide, ei_14, (List.mem_of_getElem? (i := 1891) (by decide +kernel)), .inl rfl⟩ (by decide +kernel) rfl : e_Sn 92 29 (o_getf (e_f1 14 0) 32)) t_92_32
noncomputable def n_92_26 : e_Y := u_getf 16 0 (u_old (o_getf (e_f1 16 0) 29) n_92_29) n_92_29
theorem t_92_26 : e_Sn 92 26 (e_un n_92_26) := u_getfT (s_getf (C := er_16) (T := et_16) (N := 5) (ref := "PlateroomprinterModel$Run") (index := 25) (ci := 16) (k := 0) hq_92 ho_92 ⟨rfl, by decide, ei_16, (List.mem_of_getElem? (i := 2150) (by decide +kernel)), .inl rfl⟩ (by decide +kernel) rfl : e_Sn 92 26 (o_getf (e_f1 16 0) 29)) t_92_29
noncomputable def n_92_25 : e_Y := u_ld f_okA f_l0 n_92_26
theorem t_92_25 : e_Sn 92 25 (e_un n_92_25) := u_ldAT f_l0_eq (s_aload (i := .aload_n 0) (len := 1) hq_92 (by decide +kernel) rfl (.inr ⟨0, rfl, rfl, rfl⟩) : e_Sn 92 25 (o_load e_okR 0 26)) t_92_26
noncomputable def n_92_22 : e_Y := u_callS 66 2 21 2 n_66_0 n_92_25
theorem t_92_22 : e_Sn 92 22 (e_un n_92_22) := u_callST rfl (s_callSN (host := "PlateroomprinterModel") (index := 73) hq_92 ho_92 hy_66 hp_66 hc_66 hi_66 hd_66 (List.mem_of_getElem? (i := 2203) (by decide +kernel)) hs_66 (by decide +kernel) rfl : e_Sn 92 22 (o_callS 66 2 2 25)) t_66_0 t_92_25
noncomputable def n_92_20 : e_Y := u_push (.inl 2147483656) n_92_22
theorem t_92_20 : e_Sn 92 20 (e_un n_92_20) := u_pushT (s_bipush (n := (8)) hq_92 (by decide +kernel) rfl ⟨by decide +kernel, by decide +kernel⟩ : e_Sn 92 20 (o_push (.inl 2147483656) 22)) t_92_22
noncomputable def n_92_16 : e_Y := n_92_20
theorem t_92_16 : e_Sn 92 16 (e_un n_92_16) := u_gotoT (s_goto (off := (4)) hq_92 (by decide +kernel) rfl : e_Sn 92 16 (o_goto 20)) t_92_20
noncomputable def n_92_15 : e_Y := u_push (.inl 2147483649) n_92_16
theorem t_92_15 : e_Sn 92 15 (e_un n_92_15) := u_pushT (s_iconst (n := (1)) hq_92 (by decide +kernel) rfl ⟨by decide +kernel, by decide +kernel⟩ : e_Sn 92 15 (o_push (.inl 2147483649) 16)) t_92_16
noncomputable def n_92_12 : e_Y := u_jmp y_ge (u_old2 (o_clt 15 19) 15 n_92_15 (u_at 19)) n_92_15 (u_at 19)
theorem t_92_12 : e_Sn 92 12 (e_un n_92_12) := u_cltT rfl (s_cge (off := (7)) hq_92 (by decide +kernel) rfl rfl : e_Sn 92 12 (o_clt 15 19)) t_92_15 u_atT
noncomputable def n_92_10 : e_Y := u_push (.inl 2147483688) n_92_12
theorem t_92_10 : e_Sn 92 10 (e_un n_92_10) := u_pushT (s_bipush (n := (40)) hq_92 (by decide +kernel) rfl ⟨by decide +kernel, by decide +kernel⟩ : e_Sn 92 10 (o_push (.inl 2147483688) 12)) t_92_12
noncomputable def n_92_7 : e_Y := u_callV 19 114 1 20 1 n_114_0 n_92_10
theorem t_92_7 : e_Sn 92 7 (e_un n_92_7) := u_callVT rfl (s_callV (ci := 19) (C := er_19) (T := et_19) (N := 3) (index := 38) hq_92 ho_92 hy_114 hp_114 hc_114 hi_114 hd_114 (List.mem_of_getElem? (i := 2181) (by decide +kernel)) hs_114 (List.mem_of_getElem? (i := 2002) (by decide +kernel)) rfl (by decide +kernel) rfl : e_Sn 92 7 (o_callV (e_s1 19 114 1) 1 10)) t_114_0 t_92_10
noncomputable def n_92_4 : e_Y := u_getf 14 0 (u_old (o_getf (e_f1 14 0) 7) n_92_7) n_92_7
theorem t_92_4 : e_Sn 92 4 (e_un n_92_4) := u_getfT (s_getf (C := er_14) (T := et_14) (N := 13) (ref := "PlateroomprinterModel$Machine") (index := 122) (ci := 14) (k := 0) hq_92 ho_92 ⟨rfl, by decide, ei_14, (List.mem_of_getElem? (i := 1891) (by decide +kernel)), .inl rfl⟩ (by decide +kernel) rfl : e_Sn 92 4 (o_getf (e_f1 14 0) 7)) t_92_7
noncomputable def n_92_1 : e_Y := u_getf 16 0 (u_old (o_getf (e_f1 16 0) 4) n_92_4) n_92_4
theorem t_92_1 : e_Sn 92 1 (e_un n_92_1) := u_getfT (s_getf (C := er_16) (T := et_16) (N := 5) (ref := "PlateroomprinterModel$Run") (index := 25) (ci := 16) (k := 0) hq_92 ho_92 ⟨rfl, by decide, ei_16, (List.mem_of_getElem? (i := 2150) (by decide +kernel)), .inl rfl⟩ (by decide +kernel) rfl : e_Sn 92 1 (o_getf (e_f1 16 0) 4)) t_92_4
noncomputable def n_92_0 : e_Y := u_ld f_okA f_l0 n_92_1
theorem t_92_0 : e_Sn 92 0 (e_un n_92_0) := u_ldAT f_l0_eq (s_aload (i := .aload_n 0) (len := 1) hq_92 (by decide +kernel) rfl (.inr ⟨0, rfl, rfl, rfl⟩) : e_Sn 92 0 (o_load e_okR 0 1)) t_92_1
noncomputable def e_tb_92 : e_X := (e_lf 0 (e_un n_92_0))
theorem e_tk_92 : e_Tb 92 e_tb_92 := (e_lfT t_92_0)
theorem hq_91 : (e_ml[91]?).map (·.2.1) = some prog_20_method_9_code := rfl
theorem ho_91 : (e_ml[91]?).map (·.1.cls) = some "PlateroomprinterModel$Run" := rfl
theorem hr_91 : (e_ml[91]?).map (·.2.2.2) = some none := rfl
noncomputable def n_91_29 : e_Y := u_tab (o_retv)
theorem t_91_29 : e_Sn 91 29 (e_un n_91_29) := u_tabT (s_vret hq_91 hr_91 (by decide +kernel) : e_Sn 91 29 (o_retv))
noncomputable def n_91_26 : e_Y := u_callV 16 92 2 21 2 n_92_0 n_91_29
theorem t_91_26 : e_Sn 91 26 (e_un n_91_26) := u_callVT rfl (s_callV (ci := 16) (C := er_16) (T := et_16) (N := 5) (index := 138) hq_91 ho_91 hy_92 hp_92 hc_92 hi_92 hd_92 (List.mem_of_getElem? (i := 2249) (by decide +kernel)) hs_92 (List.mem_of_getElem? (i := 81) (by decide +kernel)) rfl (by decide +kernel) rfl : e_Sn 91 26 (o_callV (e_s1 16 92 2) 2 29)) t_92_0 t_91_29
noncomputable def n_91_23 : e_Y := u_tab (o_callI 72 4 4 26)
theorem t_91_23 : e_Sn 91 23 (e_un n_91_23) := u_tabT (s_callI (index := 135) hq_91 ho_91 hy_72 hp_72 hc_72 hi_72 hd_72 (List.mem_of_getElem? (i := 2232) (by decide +kernel)) rfl rfl hs_72 (by decide +kernel) rfl : e_Sn 91 23 (o_callI 72 4 4 26))
noncomputable def n_91_22 : e_Y := u_push e_N n_91_23
theorem t_91_22 : e_Sn 91 22 (e_un n_91_22) := u_pushT (s_null hq_91 (by decide +kernel) rfl : e_Sn 91 22 (o_push e_N 23)) t_91_23
noncomputable def n_91_21 : e_Y := u_old (o_l2i 22) n_91_22
theorem t_91_21 : e_Sn 91 21 (e_un n_91_21) := u_oldT (s_l2i hq_91 (by decide +kernel) rfl : e_Sn 91 21 (o_l2i 22)) t_91_22 e_cg_l2i
noncomputable def n_91_20 : e_Y := u_old (o_load e_okL 1 21) n_91_21
theorem t_91_20 : e_Sn 91 20 (e_un n_91_20) := u_oldT (s_lload (i := .lload_n 1) (len := 1) hq_91 (by decide +kernel) rfl (.inr ⟨1, rfl, rfl, rfl⟩) : e_Sn 91 20 (o_load e_okL 1 21)) t_91_21 e_congr_load
noncomputable def n_91_19 : e_Y := u_push (.inl 2147483648) n_91_20
theorem t_91_19 : e_Sn 91 19 (e_un n_91_19) := u_pushT (s_iconst (n := (0)) hq_91 (by decide +kernel) rfl ⟨by decide +kernel, by decide +kernel⟩ : e_Sn 91 19 (o_push (.inl 2147483648) 20)) t_91_20
noncomputable def n_91_18 : e_Y := u_old (o_dup 19) n_91_19
theorem t_91_18 : e_Sn 91 18 (e_un n_91_18) := u_oldT (s_dup hq_91 (by decide +kernel) rfl : e_Sn 91 18 (o_dup 19)) t_91_19 e_cg_dup
noncomputable def n_91_15 : e_Y := u_tab (o_new 13 3 ef_13 18)
theorem t_91_15 : e_Sn 91 15 (e_un n_91_15) := u_tabT (s_new (index := 133) (ci := 13) (N := 3) (C := er_13) (T := et_13) (ty0 := ey_13) (fv := eg_13) hq_91 ho_91 rfl ei_13 eo_13 (List.mem_of_getElem? (i := 2230) (by decide +kernel)) (List.mem_of_getElem? (i := 2231) (by decide +kernel)) (List.mem_of_getElem? (i := 173) (by decide +kernel)) eh_13 rfl (e_newrel ek_13) (by decide +kernel) rfl : e_Sn 91 15 (o_new 13 3 ef_13 18))
noncomputable def n_91_14 : e_Y := u_ld f_okA f_l0 n_91_15
theorem t_91_14 : e_Sn 91 14 (e_un n_91_14) := u_ldAT f_l0_eq (s_aload (i := .aload_n 0) (len := 1) hq_91 (by decide +kernel) rfl (.inr ⟨0, rfl, rfl, rfl⟩) : e_Sn 91 14 (o_load e_okR 0 15)) t_91_15
noncomputable def n_91_11 : e_Y := u_callS 66 2 21 2 n_66_0 n_91_14
theorem t_91_11 : e_Sn 91 11 (e_un n_91_11) := u_callST rfl (s_callSN (host := "PlateroomprinterModel") (index := 73) hq_91 ho_91 hy_66 hp_66 hc_66 hi_66 hd_66 (List.mem_of_getElem? (i := 2203) (by decide +kernel)) hs_66 (by decide +kernel) rfl : e_Sn 91 11 (o_callS 66 2 2 14)) t_66_0 t_91_14
noncomputable def n_91_10 : e_Y := u_push (.inl 2147483651) n_91_11
theorem t_91_10 : e_Sn 91 10 (e_un n_91_10) := u_pushT (s_iconst (n := (3)) hq_91 (by decide +kernel) rfl ⟨by decide +kernel, by decide +kernel⟩ : e_Sn 91 10 (o_push (.inl 2147483651) 11)) t_91_11
noncomputable def n_91_7 : e_Y := u_callS 64 6 25 3 n_64_0 n_91_10
theorem t_91_7 : e_Sn 91 7 (e_un n_91_7) := u_callST rfl (s_callSN (host := "PlateroomprinterModel") (index := 129) hq_91 ho_91 hy_64 hp_64 hc_64 hi_64 hd_64 (List.mem_of_getElem? (i := 2202) (by decide +kernel)) hs_64 (by decide +kernel) rfl : e_Sn 91 7 (o_callS 64 6 3 10)) t_64_0 t_91_10
noncomputable def n_91_4 : e_Y := u_push (e_L 9223372036854875807) n_91_7
theorem t_91_4 : e_Sn 91 4 (e_un n_91_4) := u_pushT (s_ldc2 (index := 127) (v := (99999)) hq_91 ho_91 (List.mem_of_getElem? (i := 2201) (by decide +kernel)) (by decide +kernel) rfl ⟨by decide +kernel, by decide +kernel⟩ : e_Sn 91 4 (o_push (e_L 9223372036854875807) 7)) t_91_7
noncomputable def n_91_1 : e_Y := u_push (e_L 9223372036854675809) n_91_4
theorem t_91_1 : e_Sn 91 1 (e_un n_91_1) := u_pushT (s_ldc2 (index := 125) (v := (-99999)) hq_91 ho_91 (List.mem_of_getElem? (i := 2200) (by decide +kernel)) (by decide +kernel) rfl ⟨by decide +kernel, by decide +kernel⟩ : e_Sn 91 1 (o_push (e_L 9223372036854675809) 4)) t_91_4
noncomputable def n_91_0 : e_Y := u_old (o_load e_okL 1 1) n_91_1
theorem t_91_0 : e_Sn 91 0 (e_un n_91_0) := u_oldT (s_lload (i := .lload_n 1) (len := 1) hq_91 (by decide +kernel) rfl (.inr ⟨1, rfl, rfl, rfl⟩) : e_Sn 91 0 (o_load e_okL 1 1)) t_91_1 e_congr_load
noncomputable def e_tb_91 : e_X := (e_br 18 (e_lf 0 (e_un n_91_0)) (e_br 26 (e_lf 18 (e_un n_91_18)) (e_lf 26 (e_un n_91_26))))
theorem e_tk_91 : e_Tb 91 e_tb_91 := (e_brT (e_lfT t_91_0) (e_brT (e_lfT t_91_18) (e_lfT t_91_26)))
theorem hq_95 : (e_ml[95]?).map (·.2.1) = some prog_20_method_14_code := rfl
theorem ho_95 : (e_ml[95]?).map (·.1.cls) = some "PlateroomprinterModel$Run" := rfl
theorem hr_95 : (e_ml[95]?).map (·.2.2.2) = some none := rfl
noncomputable def n_95_123 : e_Y := u_tab (o_retv)
theorem t_95_123 : e_Sn 95 123 (e_un n_95_123) := u_tabT (s_vret hq_95 hr_95 (by decide +kernel) : e_Sn 95 123 (o_retv))
noncomputable def n_95_110 : e_Y := n_95_123
theorem t_95_110 : e_Sn 95 110 (e_un n_95_110) := u_gotoT (s_goto (off := (13)) hq_95 (by decide +kernel) rfl : e_Sn 95 110 (o_goto 123)) t_95_123
noncomputable def n_95_107 : e_Y := u_callV 16 92 2 21 2 n_92_0 n_95_110
theorem t_95_107 : e_Sn 95 107 (e_un n_95_107) := u_callVT rfl (s_callV (ci := 16) (C := er_16) (T := et_16) (N := 5) (index := 138) hq_95 ho_95 hy_92 hp_92 hc_92 hi_92 hd_92 (List.mem_of_getElem? (i := 2249) (by decide +kernel)) hs_92 (List.mem_of_getElem? (i := 81) (by decide +kernel)) rfl (by decide +kernel) rfl : e_Sn 95 107 (o_callV (e_s1 16 92 2) 2 110)) t_92_0 t_95_110
noncomputable def n_95_104 : e_Y := u_callV 16 90 5 24 2 n_90_0 n_95_107
theorem t_95_104 : e_Sn 95 104 (e_un n_95_104) := u_callVT rfl (s_callV (ci := 16) (C := er_16) (T := et_16) (N := 5) (index := 169) hq_95 ho_95 hy_90 hp_90 hc_90 hi_90 hd_90 (List.mem_of_getElem? (i := 2885) (by decide +kernel)) hs_90 (List.mem_of_getElem? (i := 120) (by decide +kernel)) rfl (by decide +kernel) rfl : e_Sn 95 104 (o_callV (e_s1 16 90 5) 2 107)) t_90_0 t_95_107
noncomputable def n_95_103 : e_Y := u_ld f_okA f_l1 n_95_104
theorem t_95_103 : e_Sn 95 103 (e_un n_95_103) := u_ldAT f_l1_eq (s_aload (i := .aload_n 1) (len := 1) hq_95 (by decide +kernel) rfl (.inr ⟨1, rfl, rfl, rfl⟩) : e_Sn 95 103 (o_load e_okR 1 104)) t_95_104
noncomputable def n_95_102 : e_Y := u_ld f_okA f_l0 n_95_103
theorem t_95_102 : e_Sn 95 102 (e_un n_95_102) := u_ldAT f_l0_eq (s_aload (i := .aload_n 0) (len := 1) hq_95 (by decide +kernel) rfl (.inr ⟨0, rfl, rfl, rfl⟩) : e_Sn 95 102 (o_load e_okR 0 103)) t_95_103
noncomputable def n_95_101 : e_Y := u_ld f_okA f_l0 n_95_102
theorem t_95_101 : e_Sn 95 101 (e_un n_95_101) := u_ldAT f_l0_eq (s_aload (i := .aload_n 0) (len := 1) hq_95 (by decide +kernel) rfl (.inr ⟨0, rfl, rfl, rfl⟩) : e_Sn 95 101 (o_load e_okR 0 102)) t_95_102
noncomputable def n_95_69 : e_Y := n_95_123
theorem t_95_69 : e_Sn 95 69 (e_un n_95_69) := u_gotoT (s_goto (off := (54)) hq_95 (by decide +kernel) rfl : e_Sn 95 69 (o_goto 123)) t_95_123
noncomputable def n_95_68 : e_Y := u_old (o_ast 0 e_okI 69) n_95_69
theorem t_95_68 : e_Sn 95 68 (e_un n_95_68) := u_oldT (s_iast hq_95 (by decide +kernel) rfl : e_Sn 95 68 (o_ast 0 e_okI 69)) t_95_69 (e_cg_ast 0 e_okI)
noncomputable def n_95_67 : e_Y := u_bin a_iadd (u_old (o_iadd 68) n_95_68) n_95_68
theorem t_95_67 : e_Sn 95 67 (e_un n_95_67) := u_iaddT (s_iadd hq_95 (by decide +kernel) rfl : e_Sn 95 67 (o_iadd 68)) t_95_68
noncomputable def n_95_66 : e_Y := u_push (.inl 2147483649) n_95_67
theorem t_95_66 : e_Sn 95 66 (e_un n_95_66) := u_pushT (s_iconst (n := (1)) hq_95 (by decide +kernel) rfl ⟨by decide +kernel, by decide +kernel⟩ : e_Sn 95 66 (o_push (.inl 2147483649) 67)) t_95_67
noncomputable def n_95_65 : e_Y := u_ald 0 (u_old (o_ald e_fcs 66) n_95_66) n_95_66
theorem t_95_65 : e_Sn 95 65 (e_un n_95_65) := u_aldT (s_iald hq_95 (by decide +kernel) rfl : e_Sn 95 65 (o_ald e_fcs 66)) t_95_66
noncomputable def n_95_64 : e_Y := u_old (o_dup2 65) n_95_65
theorem t_95_64 : e_Sn 95 64 (e_un n_95_64) := u_oldT (s_dup2 hq_95 (by decide +kernel) rfl : e_Sn 95 64 (o_dup2 65)) t_95_65 e_cg_dup2
noncomputable def n_95_63 : e_Y := u_ald 0 (u_old (o_ald e_fcs 64) n_95_64) n_95_64
theorem t_95_63 : e_Sn 95 63 (e_un n_95_63) := u_aldT (s_iald hq_95 (by decide +kernel) rfl : e_Sn 95 63 (o_ald e_fcs 64)) t_95_64
noncomputable def n_95_62 : e_Y := u_push (.inl 2147483649) n_95_63
theorem t_95_62 : e_Sn 95 62 (e_un n_95_62) := u_pushT (s_iconst (n := (1)) hq_95 (by decide +kernel) rfl ⟨by decide +kernel, by decide +kernel⟩ : e_Sn 95 62 (o_push (.inl 2147483649) 63)) t_95_63
noncomputable def n_95_61 : e_Y := u_ld f_okA f_l2 n_95_62
theorem t_95_61 : e_Sn 95 61 (e_un n_95_61) := u_ldAT f_l2_eq (s_aload (i := .aload_n 2) (len := 1) hq_95 (by decide +kernel) rfl (.inr ⟨2, rfl, rfl, rfl⟩) : e_Sn 95 61 (o_load e_okR 2 62)) t_95_62
noncomputable def n_95_58 : e_Y := u_getf 14 12 (u_old (o_getf (e_f1 14 12) 61) n_95_61) n_95_61
theorem t_95_58 : e_Sn 95 58 (e_un n_95_58) := u_getfT (s_getf (C := er_14) (T := et_14) (N := 13) (ref := "PlateroomprinterModel$Machine") (index := 163) (ci := 14) (k := 12) hq_95 ho_95 ⟨rfl, by decide, ei_14, (List.mem_of_getElem? (i := 1927) (by decide +kernel)), .inl rfl⟩ (by decide +kernel) rfl : e_Sn 95 58 (o_getf (e_f1 14 12) 61)) t_95_61
noncomputable def n_95_55 : e_Y := u_getf 16 0 (u_old (o_getf (e_f1 16 0) 58) n_95_58) n_95_58
theorem t_95_55 : e_Sn 95 55 (e_un n_95_55) := u_getfT (s_getf (C := er_16) (T := et_16) (N := 5) (ref := "PlateroomprinterModel$Run") (index := 25) (ci := 16) (k := 0) hq_95 ho_95 ⟨rfl, by decide, ei_16, (List.mem_of_getElem? (i := 2150) (by decide +kernel)), .inl rfl⟩ (by decide +kernel) rfl : e_Sn 95 55 (o_getf (e_f1 16 0) 58)) t_95_58
noncomputable def n_95_54 : e_Y := u_ld f_okA f_l0 n_95_55
theorem t_95_54 : e_Sn 95 54 (e_un n_95_54) := u_ldAT f_l0_eq (s_aload (i := .aload_n 0) (len := 1) hq_95 (by decide +kernel) rfl (.inr ⟨0, rfl, rfl, rfl⟩) : e_Sn 95 54 (o_load e_okR 0 55)) t_95_55
noncomputable def n_95_51 : e_Y := u_callV 16 87 2 21 2 n_87_0 n_95_54
theorem t_95_51 : e_Sn 95 51 (e_un n_95_51) := u_callVT rfl (s_callV (ci := 16) (C := er_16) (T := et_16) (N := 5) (index := 159) hq_95 ho_95 hy_87 hp_87 hc_87 hi_87 hd_87 (List.mem_of_getElem? (i := 2259) (by decide +kernel)) hs_87 (List.mem_of_getElem? (i := 83) (by decide +kernel)) rfl (by decide +kernel) rfl : e_Sn 95 51 (o_callV (e_s1 16 87 2) 2 54)) t_87_0 t_95_54
noncomputable def n_95_50 : e_Y := u_ald 0 (u_old (o_ald e_fcs 51) n_95_51) n_95_51
theorem t_95_50 : e_Sn 95 50 (e_un n_95_50) := u_aldT (s_iald hq_95 (by decide +kernel) rfl : e_Sn 95 50 (o_ald e_fcs 51)) t_95_51
noncomputable def n_95_49 : e_Y := u_push (.inl 2147483649) n_95_50
theorem t_95_49 : e_Sn 95 49 (e_un n_95_49) := u_pushT (s_iconst (n := (1)) hq_95 (by decide +kernel) rfl ⟨by decide +kernel, by decide +kernel⟩ : e_Sn 95 49 (o_push (.inl 2147483649) 50)) t_95_50
noncomputable def n_95_48 : e_Y := u_ld f_okA f_l2 n_95_49
theorem t_95_48 : e_Sn 95 48 (e_un n_95_48) := u_ldAT f_l2_eq (s_aload (i := .aload_n 2) (len := 1) hq_95 (by decide +kernel) rfl (.inr ⟨2, rfl, rfl, rfl⟩) : e_Sn 95 48 (o_load e_okR 2 49)) t_95_49
noncomputable def n_95_47 : e_Y := u_ld f_okA f_l0 n_95_48
theorem t_95_47 : e_Sn 95 47 (e_un n_95_47) := u_ldAT f_l0_eq (s_aload (i := .aload_n 0) (len := 1) hq_95 (by decide +kernel) rfl (.inr ⟨0, rfl, rfl, rfl⟩) : e_Sn 95 47 (o_load e_okR 0 48)) t_95_48
noncomputable def n_95_44 : e_Y := n_95_123
theorem t_95_44 : e_Sn 95 44 (e_un n_95_44) := u_gotoT (s_goto (off := (79)) hq_95 (by decide +kernel) rfl : e_Sn 95 44 (o_goto 123)) t_95_123
noncomputable def n_95_41 : e_Y := u_callV 16 91 3 22 2 n_91_0 n_95_44
theorem t_95_41 : e_Sn 95 41 (e_un n_95_41) := u_callVT rfl (s_callV (ci := 16) (C := er_16) (T := et_16) (N := 5) (index := 118) hq_95 ho_95 hy_91 hp_91 hc_91 hi_91 hd_91 (List.mem_of_getElem? (i := 2196) (by decide +kernel)) hs_91 (List.mem_of_getElem? (i := 80) (by decide +kernel)) rfl (by decide +kernel) rfl : e_Sn 95 41 (o_callV (e_s1 16 91 3) 2 44)) t_91_0 t_95_44
noncomputable def n_95_40 : e_Y := u_old (o_i2l 41) n_95_41
theorem t_95_40 : e_Sn 95 40 (e_un n_95_40) := u_oldT (s_i2l hq_95 (by decide +kernel) rfl : e_Sn 95 40 (o_i2l 41)) t_95_41 e_congr_i2l
noncomputable def n_95_39 : e_Y := u_ald 0 (u_old (o_ald e_fcs 40) n_95_40) n_95_40
theorem t_95_39 : e_Sn 95 39 (e_un n_95_39) := u_aldT (s_iald hq_95 (by decide +kernel) rfl : e_Sn 95 39 (o_ald e_fcs 40)) t_95_40
noncomputable def n_95_38 : e_Y := u_push (.inl 2147483649) n_95_39
theorem t_95_38 : e_Sn 95 38 (e_un n_95_38) := u_pushT (s_iconst (n := (1)) hq_95 (by decide +kernel) rfl ⟨by decide +kernel, by decide +kernel⟩ : e_Sn 95 38 (o_push (.inl 2147483649) 39)) t_95_39
noncomputable def n_95_37 : e_Y := u_ld f_okA f_l2 n_95_38
theorem t_95_37 : e_Sn 95 37 (e_un n_95_37) := u_ldAT f_l2_eq (s_aload (i := .aload_n 2) (len := 1) hq_95 (by decide +kernel) rfl (.inr ⟨2, rfl, rfl, rfl⟩) : e_Sn 95 37 (o_load e_okR 2 38)) t_95_38
noncomputable def n_95_36 : e_Y := u_ld f_okA f_l0 n_95_37
theorem t_95_36 : e_Sn 95 36 (e_un n_95_36) := u_ldAT f_l0_eq (s_aload (i := .aload_n 0) (len := 1) hq_95 (by decide +kernel) rfl (.inr ⟨0, rfl, rfl, rfl⟩) : e_Sn 95 36 (o_load e_okR 0 37)) t_95_37
noncomputable def n_95_3 : e_Y := u_tab (o_switch 2147483648 [36, 47, 72, 91, 101] 113)
theorem t_95_3 : e_Sn 95 3 (e_un n_95_3) := u_tabT (s_switch (dflt := (110)) (low := (0)) (hi := (4)) (offs := #[(33), (44), (69), (88), (98)]) (len := 33) hq_95 (by decide +kernel) rfl rfl rfl rfl : e_Sn 95 3 (o_switch 2147483648 [36, 47, 72, 91, 101] 113))
noncomputable def n_95_2 : e_Y := u_ald 0 (u_old (o_ald e_fcs 3) n_95_3) n_95_3
theorem t_95_2 : e_Sn 95 2 (e_un n_95_2) := u_aldT (s_iald hq_95 (by decide +kernel) rfl : e_Sn 95 2 (o_ald e_fcs 3)) t_95_3
noncomputable def n_95_1 : e_Y := u_push (.inl 2147483648) n_95_2
theorem t_95_1 : e_Sn 95 1 (e_un n_95_1) := u_pushT (s_iconst (n := (0)) hq_95 (by decide +kernel) rfl ⟨by decide +kernel, by decide +kernel⟩ : e_Sn 95 1 (o_push (.inl 2147483648) 2)) t_95_2
noncomputable def n_95_0 : e_Y := u_ld f_okA f_l2 n_95_1
theorem t_95_0 : e_Sn 95 0 (e_un n_95_0) := u_ldAT f_l2_eq (s_aload (i := .aload_n 2) (len := 1) hq_95 (by decide +kernel) rfl (.inr ⟨2, rfl, rfl, rfl⟩) : e_Sn 95 0 (o_load e_okR 2 1)) t_95_1
noncomputable def e_tb_95 : e_X := (e_br 47 (e_br 36 (e_lf 0 (e_un n_95_0)) (e_lf 36 (e_un n_95_36))) (e_br 101 (e_lf 47 (e_un n_95_47)) (e_lf 101 (e_un n_95_101))))
theorem e_tk_95 : e_Tb 95 e_tb_95 := (e_brT (e_brT (e_lfT t_95_0) (e_lfT t_95_36)) (e_brT (e_lfT t_95_47) (e_lfT t_95_101)))
theorem hq_78 : (e_ml[78]?).map (·.2.1) = some prog_20_method_3_code := rfl
theorem ho_78 : (e_ml[78]?).map (·.1.cls) = some "PlateroomprinterModel$Run" := rfl
theorem hr_78 : (e_ml[78]?).map (·.2.2.2) = some none := rfl
noncomputable def n_78_173 : e_Y := u_tab (o_retv)
theorem t_78_173 : e_Sn 78 173 (e_un n_78_173) := u_tabT (s_vret hq_78 hr_78 (by decide +kernel) : e_Sn 78 173 (o_retv))
noncomputable def n_78_170 : e_Y := u_old (o_putf (e_f1 14 10) e_okI 173) n_78_173
theorem t_78_170 : e_Sn 78 170 (e_un n_78_170) := u_oldT (s_putf (ty0 := ey_14) (ok := e_okI) (C := er_14) (T := et_14) (N := 13) (ref := "PlateroomprinterModel$Machine") (index := 78) (ci := 14) (k := 10) hq_78 ho_78 ⟨rfl, by decide, ei_14, (List.mem_of_getElem? (i := 1921) (by decide +kernel)), .inl rfl⟩ eo_14 en_14 e_oksI (.inl rfl) (by decide +kernel) rfl : e_Sn 78 170 (o_putf (e_f1 14 10) e_okI 173)) t_78_173 (e_cg_putf (e_f1 14 10) e_okI)
noncomputable def n_78_167 : e_Y := u_getf 16 2 (u_old (o_getf (e_f1 16 2) 170) n_78_170) n_78_170
theorem t_78_167 : e_Sn 78 167 (e_un n_78_167) := u_getfT (s_getf (C := er_16) (T := et_16) (N := 5) (ref := "PlateroomprinterModel$Run") (index := 57) (ci := 16) (k := 2) hq_78 ho_78 ⟨rfl, by decide, ei_16, (List.mem_of_getElem? (i := 2152) (by decide +kernel)), .inl rfl⟩ (by decide +kernel) rfl : e_Sn 78 167 (o_getf (e_f1 16 2) 170)) t_78_170
noncomputable def n_78_166 : e_Y := u_ld f_okA f_l0 n_78_167
theorem t_78_166 : e_Sn 78 166 (e_un n_78_166) := u_ldAT f_l0_eq (s_aload (i := .aload_n 0) (len := 1) hq_78 (by decide +kernel) rfl (.inr ⟨0, rfl, rfl, rfl⟩) : e_Sn 78 166 (o_load e_okR 0 167)) t_78_167
noncomputable def n_78_163 : e_Y := u_getf 16 0 (u_old (o_getf (e_f1 16 0) 166) n_78_166) n_78_166
theorem t_78_163 : e_Sn 78 163 (e_un n_78_163) := u_getfT (s_getf (C := er_16) (T := et_16) (N := 5) (ref := "PlateroomprinterModel$Run") (index := 25) (ci := 16) (k := 0) hq_78 ho_78 ⟨rfl, by decide, ei_16, (List.mem_of_getElem? (i := 2150) (by decide +kernel)), .inl rfl⟩ (by decide +kernel) rfl : e_Sn 78 163 (o_getf (e_f1 16 0) 166)) t_78_166
noncomputable def n_78_162 : e_Y := u_ld f_okA f_l0 n_78_163
theorem t_78_162 : e_Sn 78 162 (e_un n_78_162) := u_ldAT f_l0_eq (s_aload (i := .aload_n 0) (len := 1) hq_78 (by decide +kernel) rfl (.inr ⟨0, rfl, rfl, rfl⟩) : e_Sn 78 162 (o_load e_okR 0 163)) t_78_163
noncomputable def n_78_159 : e_Y := u_old (o_putf (e_f1 14 9) e_okI 162) n_78_162
theorem t_78_159 : e_Sn 78 159 (e_un n_78_159) := u_oldT (s_putf (ty0 := ey_14) (ok := e_okI) (C := er_14) (T := et_14) (N := 13) (ref := "PlateroomprinterModel$Machine") (index := 77) (ci := 14) (k := 9) hq_78 ho_78 ⟨rfl, by decide, ei_14, (List.mem_of_getElem? (i := 1918) (by decide +kernel)), .inl rfl⟩ eo_14 en_14 e_oksI (.inl rfl) (by decide +kernel) rfl : e_Sn 78 159 (o_putf (e_f1 14 9) e_okI 162)) t_78_162 (e_cg_putf (e_f1 14 9) e_okI)
noncomputable def n_78_158 : e_Y := u_bin a_iadd (u_old (o_iadd 159) n_78_159) n_78_159
theorem t_78_158 : e_Sn 78 158 (e_un n_78_158) := u_iaddT (s_iadd hq_78 (by decide +kernel) rfl : e_Sn 78 158 (o_iadd 159)) t_78_159
noncomputable def n_78_155 : e_Y := u_getf 16 2 (u_old (o_getf (e_f1 16 2) 158) n_78_158) n_78_158
theorem t_78_155 : e_Sn 78 155 (e_un n_78_155) := u_getfT (s_getf (C := er_16) (T := et_16) (N := 5) (ref := "PlateroomprinterModel$Run") (index := 57) (ci := 16) (k := 2) hq_78 ho_78 ⟨rfl, by decide, ei_16, (List.mem_of_getElem? (i := 2152) (by decide +kernel)), .inl rfl⟩ (by decide +kernel) rfl : e_Sn 78 155 (o_getf (e_f1 16 2) 158)) t_78_158
noncomputable def n_78_154 : e_Y := u_ld f_okA f_l0 n_78_155
theorem t_78_154 : e_Sn 78 154 (e_un n_78_154) := u_ldAT f_l0_eq (s_aload (i := .aload_n 0) (len := 1) hq_78 (by decide +kernel) rfl (.inr ⟨0, rfl, rfl, rfl⟩) : e_Sn 78 154 (o_load e_okR 0 155)) t_78_155
noncomputable def n_78_151 : e_Y := u_getf 14 9 (u_old (o_getf (e_f1 14 9) 154) n_78_154) n_78_154
theorem t_78_151 : e_Sn 78 151 (e_un n_78_151) := u_getfT (s_getf (C := er_14) (T := et_14) (N := 13) (ref := "PlateroomprinterModel$Machine") (index := 77) (ci := 14) (k := 9) hq_78 ho_78 ⟨rfl, by decide, ei_14, (List.mem_of_getElem? (i := 1918) (by decide +kernel)), .inl rfl⟩ (by decide +kernel) rfl : e_Sn 78 151 (o_getf (e_f1 14 9) 154)) t_78_154
noncomputable def n_78_150 : e_Y := u_old (o_dup 151) n_78_151
theorem t_78_150 : e_Sn 78 150 (e_un n_78_150) := u_oldT (s_dup hq_78 (by decide +kernel) rfl : e_Sn 78 150 (o_dup 151)) t_78_151 e_cg_dup
noncomputable def n_78_147 : e_Y := u_getf 16 0 (u_old (o_getf (e_f1 16 0) 150) n_78_150) n_78_150
theorem t_78_147 : e_Sn 78 147 (e_un n_78_147) := u_getfT (s_getf (C := er_16) (T := et_16) (N := 5) (ref := "PlateroomprinterModel$Run") (index := 25) (ci := 16) (k := 0) hq_78 ho_78 ⟨rfl, by decide, ei_16, (List.mem_of_getElem? (i := 2150) (by decide +kernel)), .inl rfl⟩ (by decide +kernel) rfl : e_Sn 78 147 (o_getf (e_f1 16 0) 150)) t_78_150
noncomputable def n_78_146 : e_Y := u_ld f_okA f_l0 n_78_147
theorem t_78_146 : e_Sn 78 146 (e_un n_78_146) := u_ldAT f_l0_eq (s_aload (i := .aload_n 0) (len := 1) hq_78 (by decide +kernel) rfl (.inr ⟨0, rfl, rfl, rfl⟩) : e_Sn 78 146 (o_load e_okR 0 147)) t_78_147
noncomputable def n_78_143 : e_Y := (u_at 0)
theorem t_78_143 : e_Sn 78 143 (e_un n_78_143) := u_gotoT (s_goto (off := (-143)) hq_78 (by decide +kernel) rfl : e_Sn 78 143 (o_goto 0)) u_atT
noncomputable def n_78_140 : e_Y := u_callS 66 2 21 2 n_66_0 n_78_143
theorem t_78_140 : e_Sn 78 140 (e_un n_78_140) := u_callST rfl (s_callSN (host := "PlateroomprinterModel") (index := 73) hq_78 ho_78 hy_66 hp_66 hc_66 hi_66 hd_66 (List.mem_of_getElem? (i := 2203) (by decide +kernel)) hs_66 (by decide +kernel) rfl : e_Sn 78 140 (o_callS 66 2 2 143)) t_66_0 t_78_143
noncomputable def n_78_138 : e_Y := u_push (.inl 2147483659) n_78_140
theorem t_78_138 : e_Sn 78 138 (e_un n_78_138) := u_pushT (s_bipush (n := (11)) hq_78 (by decide +kernel) rfl ⟨by decide +kernel, by decide +kernel⟩ : e_Sn 78 138 (o_push (.inl 2147483659) 140)) t_78_140
noncomputable def n_78_134 : e_Y := n_78_138
theorem t_78_134 : e_Sn 78 134 (e_un n_78_134) := u_gotoT (s_goto (off := (4)) hq_78 (by decide +kernel) rfl : e_Sn 78 134 (o_goto 138)) t_78_138
noncomputable def n_78_133 : e_Y := u_push (.inl 2147483649) n_78_134
theorem t_78_133 : e_Sn 78 133 (e_un n_78_133) := u_pushT (s_iconst (n := (1)) hq_78 (by decide +kernel) rfl ⟨by decide +kernel, by decide +kernel⟩ : e_Sn 78 133 (o_push (.inl 2147483649) 134)) t_78_134
noncomputable def n_78_130 : e_Y := u_jmp y_le (u_old2 (o_cgt 137 133) 137 (u_at 137) n_78_133) (u_at 137) n_78_133
theorem t_78_130 : e_Sn 78 130 (e_un n_78_130) := u_cgtT rfl (s_cgt (off := (7)) hq_78 (by decide +kernel) rfl rfl : e_Sn 78 130 (o_cgt 137 133)) u_atT t_78_133
noncomputable def n_78_127 : e_Y := u_push (.inl 2147488648) n_78_130
theorem t_78_127 : e_Sn 78 127 (e_un n_78_127) := u_pushT (s_sipush (n := (5000)) hq_78 (by decide +kernel) rfl ⟨by decide +kernel, by decide +kernel⟩ : e_Sn 78 127 (o_push (.inl 2147488648) 130)) t_78_130
noncomputable def n_78_124 : e_Y := u_getf 16 2 (u_old (o_getf (e_f1 16 2) 127) n_78_127) n_78_127
theorem t_78_124 : e_Sn 78 124 (e_un n_78_124) := u_getfT (s_getf (C := er_16) (T := et_16) (N := 5) (ref := "PlateroomprinterModel$Run") (index := 57) (ci := 16) (k := 2) hq_78 ho_78 ⟨rfl, by decide, ei_16, (List.mem_of_getElem? (i := 2152) (by decide +kernel)), .inl rfl⟩ (by decide +kernel) rfl : e_Sn 78 124 (o_getf (e_f1 16 2) 127)) t_78_127
noncomputable def n_78_123 : e_Y := u_ld f_okA f_l0 n_78_124
theorem t_78_123 : e_Sn 78 123 (e_un n_78_123) := u_ldAT f_l0_eq (s_aload (i := .aload_n 0) (len := 1) hq_78 (by decide +kernel) rfl (.inr ⟨0, rfl, rfl, rfl⟩) : e_Sn 78 123 (o_load e_okR 0 124)) t_78_124
noncomputable def n_78_120 : e_Y := u_old (o_putf (e_f1 14 11) e_okI 123) n_78_123
theorem t_78_120 : e_Sn 78 120 (e_un n_78_120) := u_oldT (s_putf (ty0 := ey_14) (ok := e_okI) (C := er_14) (T := et_14) (N := 13) (ref := "PlateroomprinterModel$Machine") (index := 69) (ci := 14) (k := 11) hq_78 ho_78 ⟨rfl, by decide, ei_14, (List.mem_of_getElem? (i := 1924) (by decide +kernel)), .inl rfl⟩ eo_14 en_14 e_oksI (.inl rfl) (by decide +kernel) rfl : e_Sn 78 120 (o_putf (e_f1 14 11) e_okI 123)) t_78_123 (e_cg_putf (e_f1 14 11) e_okI)
noncomputable def n_78_119 : e_Y := u_bin a_iadd (u_old (o_iadd 120) n_78_120) n_78_120
theorem t_78_119 : e_Sn 78 119 (e_un n_78_119) := u_iaddT (s_iadd hq_78 (by decide +kernel) rfl : e_Sn 78 119 (o_iadd 120)) t_78_120
noncomputable def n_78_118 : e_Y := u_push (.inl 2147483649) n_78_119
theorem t_78_118 : e_Sn 78 118 (e_un n_78_118) := u_pushT (s_iconst (n := (1)) hq_78 (by decide +kernel) rfl ⟨by decide +kernel, by decide +kernel⟩ : e_Sn 78 118 (o_push (.inl 2147483649) 119)) t_78_119
noncomputable def n_78_115 : e_Y := u_getf 14 11 (u_old (o_getf (e_f1 14 11) 118) n_78_118) n_78_118
theorem t_78_115 : e_Sn 78 115 (e_un n_78_115) := u_getfT (s_getf (C := er_14) (T := et_14) (N := 13) (ref := "PlateroomprinterModel$Machine") (index := 69) (ci := 14) (k := 11) hq_78 ho_78 ⟨rfl, by decide, ei_14, (List.mem_of_getElem? (i := 1924) (by decide +kernel)), .inl rfl⟩ (by decide +kernel) rfl : e_Sn 78 115 (o_getf (e_f1 14 11) 118)) t_78_118
noncomputable def n_78_114 : e_Y := u_old (o_dup 115) n_78_115
theorem t_78_114 : e_Sn 78 114 (e_un n_78_114) := u_oldT (s_dup hq_78 (by decide +kernel) rfl : e_Sn 78 114 (o_dup 115)) t_78_115 e_cg_dup
noncomputable def n_78_111 : e_Y := u_getf 16 0 (u_old (o_getf (e_f1 16 0) 114) n_78_114) n_78_114
theorem t_78_111 : e_Sn 78 111 (e_un n_78_111) := u_getfT (s_getf (C := er_16) (T := et_16) (N := 5) (ref := "PlateroomprinterModel$Run") (index := 25) (ci := 16) (k := 0) hq_78 ho_78 ⟨rfl, by decide, ei_16, (List.mem_of_getElem? (i := 2150) (by decide +kernel)), .inl rfl⟩ (by decide +kernel) rfl : e_Sn 78 111 (o_getf (e_f1 16 0) 114)) t_78_114
noncomputable def n_78_110 : e_Y := u_ld f_okA f_l0 n_78_111
theorem t_78_110 : e_Sn 78 110 (e_un n_78_110) := u_ldAT f_l0_eq (s_aload (i := .aload_n 0) (len := 1) hq_78 (by decide +kernel) rfl (.inr ⟨0, rfl, rfl, rfl⟩) : e_Sn 78 110 (o_load e_okR 0 111)) t_78_111
noncomputable def n_78_107 : e_Y := u_callV 16 95 3 22 3 n_95_0 n_78_110
theorem t_78_107 : e_Sn 78 107 (e_un n_78_107) := u_callVT rfl (s_callV (ci := 16) (C := er_16) (T := et_16) (N := 5) (index := 65) hq_78 ho_78 hy_95 hp_95 hc_95 hi_95 hd_95 (List.mem_of_getElem? (i := 2255) (by decide +kernel)) hs_95 (List.mem_of_getElem? (i := 82) (by decide +kernel)) rfl (by decide +kernel) rfl : e_Sn 78 107 (o_callV (e_s1 16 95 3) 3 110)) t_95_0 t_78_110
noncomputable def n_78_104 : e_Y := u_old (o_cast 100 107) n_78_107
theorem t_78_104 : e_Sn 78 104 (e_un n_78_104) := u_oldT (s_cast (index := 63) hq_78 ho_78 (List.mem_of_getElem? (i := 2254) (by decide +kernel)) (.inr ⟨rfl, rfl⟩) (by decide +kernel) rfl : e_Sn 78 104 (o_cast 100 107)) t_78_107 (e_cg_cast 100)
noncomputable def n_78_101 : e_Y := u_callV 19 108 2 21 2 n_108_0 n_78_104
theorem t_78_101 : e_Sn 78 101 (e_un n_78_101) := u_callVT rfl (s_callV (ci := 19) (C := er_19) (T := et_19) (N := 3) (index := 42) hq_78 ho_78 hy_108 hp_108 hc_108 hi_108 hd_108 (List.mem_of_getElem? (i := 2182) (by decide +kernel)) hs_108 (List.mem_of_getElem? (i := 2051) (by decide +kernel)) rfl (by decide +kernel) rfl : e_Sn 78 101 (o_callV (e_s1 19 108 2) 2 104)) t_108_0 t_78_104
noncomputable def n_78_98 : e_Y := u_getf 16 4 (u_old (o_getf (e_f1 16 4) 101) n_78_101) n_78_101
theorem t_78_98 : e_Sn 78 98 (e_un n_78_98) := u_getfT (s_getf (C := er_16) (T := et_16) (N := 5) (ref := "PlateroomprinterModel$Run") (index := 22) (ci := 16) (k := 4) hq_78 ho_78 ⟨rfl, by decide, ei_16, (List.mem_of_getElem? (i := 2155) (by decide +kernel)), .inl rfl⟩ (by decide +kernel) rfl : e_Sn 78 98 (o_getf (e_f1 16 4) 101)) t_78_101
noncomputable def n_78_97 : e_Y := u_ld f_okA f_l0 n_78_98
theorem t_78_97 : e_Sn 78 97 (e_un n_78_97) := u_ldAT f_l0_eq (s_aload (i := .aload_n 0) (len := 1) hq_78 (by decide +kernel) rfl (.inr ⟨0, rfl, rfl, rfl⟩) : e_Sn 78 97 (o_load e_okR 0 98)) t_78_98
noncomputable def n_78_94 : e_Y := u_getf 15 0 (u_old (o_getf (e_f1 15 0) 97) n_78_97) n_78_97
theorem t_78_94 : e_Sn 78 94 (e_un n_78_94) := u_getfT (s_getf (C := er_15) (T := et_15) (N := 8) (ref := "PlateroomprinterModel$Row") (index := 60) (ci := 15) (k := 0) hq_78 ho_78 ⟨rfl, by decide, ei_15, (List.mem_of_getElem? (i := 2123) (by decide +kernel)), .inl rfl⟩ (by decide +kernel) rfl : e_Sn 78 94 (o_getf (e_f1 15 0) 97)) t_78_97
noncomputable def n_78_93 : e_Y := u_ld f_okA f_l1 n_78_94
theorem t_78_93 : e_Sn 78 93 (e_un n_78_93) := u_ldAT f_l1_eq (s_aload (i := .aload_n 1) (len := 1) hq_78 (by decide +kernel) rfl (.inr ⟨1, rfl, rfl, rfl⟩) : e_Sn 78 93 (o_load e_okR 1 94)) t_78_94
noncomputable def n_78_92 : e_Y := u_ld f_okA f_l1 n_78_93
theorem t_78_92 : e_Sn 78 92 (e_un n_78_92) := u_ldAT f_l1_eq (s_aload (i := .aload_n 1) (len := 1) hq_78 (by decide +kernel) rfl (.inr ⟨1, rfl, rfl, rfl⟩) : e_Sn 78 92 (o_load e_okR 1 93)) t_78_93
noncomputable def n_78_91 : e_Y := u_ld f_okA f_l0 n_78_92
theorem t_78_91 : e_Sn 78 91 (e_un n_78_91) := u_ldAT f_l0_eq (s_aload (i := .aload_n 0) (len := 1) hq_78 (by decide +kernel) rfl (.inr ⟨0, rfl, rfl, rfl⟩) : e_Sn 78 91 (o_load e_okR 0 92)) t_78_92
noncomputable def n_78_88 : e_Y := u_old (o_putf (e_f1 16 2) e_okI 91) n_78_91
theorem t_78_88 : e_Sn 78 88 (e_un n_78_88) := u_oldT (s_putf (ty0 := ey_16) (ok := e_okI) (C := er_16) (T := et_16) (N := 5) (ref := "PlateroomprinterModel$Run") (index := 57) (ci := 16) (k := 2) hq_78 ho_78 ⟨rfl, by decide, ei_16, (List.mem_of_getElem? (i := 2152) (by decide +kernel)), .inl rfl⟩ eo_16 en_16 e_oksI (.inl rfl) (by decide +kernel) rfl : e_Sn 78 88 (o_putf (e_f1 16 2) e_okI 91)) t_78_91 (e_cg_putf (e_f1 16 2) e_okI)
noncomputable def n_78_87 : e_Y := u_bin a_iadd (u_old (o_iadd 88) n_78_88) n_78_88
theorem t_78_87 : e_Sn 78 87 (e_un n_78_87) := u_iaddT (s_iadd hq_78 (by decide +kernel) rfl : e_Sn 78 87 (o_iadd 88)) t_78_88
noncomputable def n_78_86 : e_Y := u_push (.inl 2147483649) n_78_87
theorem t_78_86 : e_Sn 78 86 (e_un n_78_86) := u_pushT (s_iconst (n := (1)) hq_78 (by decide +kernel) rfl ⟨by decide +kernel, by decide +kernel⟩ : e_Sn 78 86 (o_push (.inl 2147483649) 87)) t_78_87
noncomputable def n_78_83 : e_Y := u_getf 16 2 (u_old (o_getf (e_f1 16 2) 86) n_78_86) n_78_86
theorem t_78_83 : e_Sn 78 83 (e_un n_78_83) := u_getfT (s_getf (C := er_16) (T := et_16) (N := 5) (ref := "PlateroomprinterModel$Run") (index := 57) (ci := 16) (k := 2) hq_78 ho_78 ⟨rfl, by decide, ei_16, (List.mem_of_getElem? (i := 2152) (by decide +kernel)), .inl rfl⟩ (by decide +kernel) rfl : e_Sn 78 83 (o_getf (e_f1 16 2) 86)) t_78_86
noncomputable def n_78_82 : e_Y := u_old (o_dup 83) n_78_83
theorem t_78_82 : e_Sn 78 82 (e_un n_78_82) := u_oldT (s_dup hq_78 (by decide +kernel) rfl : e_Sn 78 82 (o_dup 83)) t_78_83 e_cg_dup
noncomputable def n_78_81 : e_Y := u_ld f_okA f_l0 n_78_82
theorem t_78_81 : e_Sn 78 81 (e_un n_78_81) := u_ldAT f_l0_eq (s_aload (i := .aload_n 0) (len := 1) hq_78 (by decide +kernel) rfl (.inr ⟨0, rfl, rfl, rfl⟩) : e_Sn 78 81 (o_load e_okR 0 82)) t_78_82
noncomputable def n_78_78 : e_Y := u_old (o_putf (e_f1 15 1) e_okI 81) n_78_81
theorem t_78_78 : e_Sn 78 78 (e_un n_78_78) := u_oldT (s_putf (ty0 := ey_15) (ok := e_okI) (C := er_15) (T := et_15) (N := 8) (ref := "PlateroomprinterModel$Row") (index := 50) (ci := 15) (k := 1) hq_78 ho_78 ⟨rfl, by decide, ei_15, (List.mem_of_getElem? (i := 2125) (by decide +kernel)), .inl rfl⟩ eo_15 en_15 e_oksI (.inl rfl) (by decide +kernel) rfl : e_Sn 78 78 (o_putf (e_f1 15 1) e_okI 81)) t_78_81 (e_cg_putf (e_f1 15 1) e_okI)
noncomputable def n_78_77 : e_Y := u_bin a_iadd (u_old (o_iadd 78) n_78_78) n_78_78
theorem t_78_77 : e_Sn 78 77 (e_un n_78_77) := u_iaddT (s_iadd hq_78 (by decide +kernel) rfl : e_Sn 78 77 (o_iadd 78)) t_78_78
noncomputable def n_78_76 : e_Y := u_push (.inl 2147483649) n_78_77
theorem t_78_76 : e_Sn 78 76 (e_un n_78_76) := u_pushT (s_iconst (n := (1)) hq_78 (by decide +kernel) rfl ⟨by decide +kernel, by decide +kernel⟩ : e_Sn 78 76 (o_push (.inl 2147483649) 77)) t_78_77
noncomputable def n_78_73 : e_Y := u_getf 15 1 (u_old (o_getf (e_f1 15 1) 76) n_78_76) n_78_76
theorem t_78_73 : e_Sn 78 73 (e_un n_78_73) := u_getfT (s_getf (C := er_15) (T := et_15) (N := 8) (ref := "PlateroomprinterModel$Row") (index := 50) (ci := 15) (k := 1) hq_78 ho_78 ⟨rfl, by decide, ei_15, (List.mem_of_getElem? (i := 2125) (by decide +kernel)), .inl rfl⟩ (by decide +kernel) rfl : e_Sn 78 73 (o_getf (e_f1 15 1) 76)) t_78_76
noncomputable def n_78_72 : e_Y := u_old (o_dup 73) n_78_73
theorem t_78_72 : e_Sn 78 72 (e_un n_78_72) := u_oldT (s_dup hq_78 (by decide +kernel) rfl : e_Sn 78 72 (o_dup 73)) t_78_73 e_cg_dup
noncomputable def n_78_71 : e_Y := u_ld f_okA f_l1 n_78_72
theorem t_78_71 : e_Sn 78 71 (e_un n_78_71) := u_ldAT f_l1_eq (s_aload (i := .aload_n 1) (len := 1) hq_78 (by decide +kernel) rfl (.inr ⟨1, rfl, rfl, rfl⟩) : e_Sn 78 71 (o_load e_okR 1 72)) t_78_72
noncomputable def n_78_70 : e_Y := u_st f_okA f_s1 n_78_71
theorem t_78_70 : e_Sn 78 70 (e_un n_78_70) := u_stAT (fun _ _ _ => f_s1_eq) (s_astore (i := .astore_n 1) (len := 1) hq_78 (by decide +kernel) rfl (.inr ⟨1, rfl, rfl, rfl⟩) : e_Sn 78 70 (o_store e_okR 1 71)) t_78_71
noncomputable def n_78_67 : e_Y := u_callV 16 96 1 20 1 n_96_0 n_78_70
theorem t_78_67 : e_Sn 78 67 (e_un n_78_67) := u_callVT rfl (s_callV (ci := 16) (C := er_16) (T := et_16) (N := 5) (index := 53) hq_78 ho_78 hy_96 hp_96 hc_96 hi_96 hd_96 (List.mem_of_getElem? (i := 2177) (by decide +kernel)) hs_96 (List.mem_of_getElem? (i := 77) (by decide +kernel)) rfl (by decide +kernel) rfl : e_Sn 78 67 (o_callV (e_s1 16 96 1) 1 70)) t_96_0 t_78_70
noncomputable def n_78_66 : e_Y := u_ld f_okA f_l0 n_78_67
theorem t_78_66 : e_Sn 78 66 (e_un n_78_66) := u_ldAT f_l0_eq (s_aload (i := .aload_n 0) (len := 1) hq_78 (by decide +kernel) rfl (.inr ⟨0, rfl, rfl, rfl⟩) : e_Sn 78 66 (o_load e_okR 0 67)) t_78_67
noncomputable def n_78_63 : e_Y := u_old (o_putf (e_f1 16 4) e_okI 66) n_78_66
theorem t_78_63 : e_Sn 78 63 (e_un n_78_63) := u_oldT (s_putf (ty0 := ey_16) (ok := e_okI) (C := er_16) (T := et_16) (N := 5) (ref := "PlateroomprinterModel$Run") (index := 22) (ci := 16) (k := 4) hq_78 ho_78 ⟨rfl, by decide, ei_16, (List.mem_of_getElem? (i := 2155) (by decide +kernel)), .inl rfl⟩ eo_16 en_16 e_oksI (.inl rfl) (by decide +kernel) rfl : e_Sn 78 63 (o_putf (e_f1 16 4) e_okI 66)) t_78_66 (e_cg_putf (e_f1 16 4) e_okI)
noncomputable def n_78_60 : e_Y := u_getf 15 1 (u_old (o_getf (e_f1 15 1) 63) n_78_63) n_78_63
theorem t_78_60 : e_Sn 78 60 (e_un n_78_60) := u_getfT (s_getf (C := er_15) (T := et_15) (N := 8) (ref := "PlateroomprinterModel$Row") (index := 50) (ci := 15) (k := 1) hq_78 ho_78 ⟨rfl, by decide, ei_15, (List.mem_of_getElem? (i := 2125) (by decide +kernel)), .inl rfl⟩ (by decide +kernel) rfl : e_Sn 78 60 (o_getf (e_f1 15 1) 63)) t_78_63
noncomputable def n_78_57 : e_Y := u_callV 16 96 1 20 1 n_96_0 n_78_60
theorem t_78_57 : e_Sn 78 57 (e_un n_78_57) := u_callVT rfl (s_callV (ci := 16) (C := er_16) (T := et_16) (N := 5) (index := 53) hq_78 ho_78 hy_96 hp_96 hc_96 hi_96 hd_96 (List.mem_of_getElem? (i := 2177) (by decide +kernel)) hs_96 (List.mem_of_getElem? (i := 77) (by decide +kernel)) rfl (by decide +kernel) rfl : e_Sn 78 57 (o_callV (e_s1 16 96 1) 1 60)) t_96_0 t_78_60
noncomputable def n_78_56 : e_Y := u_ld f_okA f_l0 n_78_57
theorem t_78_56 : e_Sn 78 56 (e_un n_78_56) := u_ldAT f_l0_eq (s_aload (i := .aload_n 0) (len := 1) hq_78 (by decide +kernel) rfl (.inr ⟨0, rfl, rfl, rfl⟩) : e_Sn 78 56 (o_load e_okR 0 57)) t_78_57
noncomputable def n_78_55 : e_Y := u_ld f_okA f_l0 n_78_56
theorem t_78_55 : e_Sn 78 55 (e_un n_78_55) := u_ldAT f_l0_eq (s_aload (i := .aload_n 0) (len := 1) hq_78 (by decide +kernel) rfl (.inr ⟨0, rfl, rfl, rfl⟩) : e_Sn 78 55 (o_load e_okR 0 56)) t_78_56
noncomputable def n_78_52 : e_Y := u_old (o_putf (e_f1 16 3) e_okI 55) n_78_55
theorem t_78_52 : e_Sn 78 52 (e_un n_78_52) := u_oldT (s_putf (ty0 := ey_16) (ok := e_okI) (C := er_16) (T := et_16) (N := 5) (ref := "PlateroomprinterModel$Run") (index := 18) (ci := 16) (k := 3) hq_78 ho_78 ⟨rfl, by decide, ei_16, (List.mem_of_getElem? (i := 2153) (by decide +kernel)), .inl rfl⟩ eo_16 en_16 e_oksI (.inl rfl) (by decide +kernel) rfl : e_Sn 78 52 (o_putf (e_f1 16 3) e_okI 55)) t_78_55 (e_cg_putf (e_f1 16 3) e_okI)
noncomputable def n_78_51 : e_Y := u_bin a_isub (u_old (o_isub 52) n_78_52) n_78_52
theorem t_78_51 : e_Sn 78 51 (e_un n_78_51) := u_isubT (s_isub hq_78 (by decide +kernel) rfl : e_Sn 78 51 (o_isub 52)) t_78_52
noncomputable def n_78_50 : e_Y := u_push (.inl 2147483649) n_78_51
theorem t_78_50 : e_Sn 78 50 (e_un n_78_50) := u_pushT (s_iconst (n := (1)) hq_78 (by decide +kernel) rfl ⟨by decide +kernel, by decide +kernel⟩ : e_Sn 78 50 (o_push (.inl 2147483649) 51)) t_78_51
noncomputable def n_78_47 : e_Y := u_getf 15 1 (u_old (o_getf (e_f1 15 1) 50) n_78_50) n_78_50
theorem t_78_47 : e_Sn 78 47 (e_un n_78_47) := u_getfT (s_getf (C := er_15) (T := et_15) (N := 8) (ref := "PlateroomprinterModel$Row") (index := 50) (ci := 15) (k := 1) hq_78 ho_78 ⟨rfl, by decide, ei_15, (List.mem_of_getElem? (i := 2125) (by decide +kernel)), .inl rfl⟩ (by decide +kernel) rfl : e_Sn 78 47 (o_getf (e_f1 15 1) 50)) t_78_50
noncomputable def n_78_44 : e_Y := u_old (o_cast 15 47) n_78_47
theorem t_78_44 : e_Sn 78 44 (e_un n_78_44) := u_oldT (s_cast (index := 29) hq_78 ho_78 (List.mem_of_getElem? (i := 2116) (by decide +kernel)) (.inl ⟨by decide, rfl⟩) (by decide +kernel) rfl : e_Sn 78 44 (o_cast 15 47)) t_78_47 (e_cg_cast 15)
noncomputable def n_78_41 : e_Y := u_callV 19 108 2 21 2 n_108_0 n_78_44
theorem t_78_41 : e_Sn 78 41 (e_un n_78_41) := u_callVT rfl (s_callV (ci := 19) (C := er_19) (T := et_19) (N := 3) (index := 42) hq_78 ho_78 hy_108 hp_108 hc_108 hi_108 hd_108 (List.mem_of_getElem? (i := 2182) (by decide +kernel)) hs_108 (List.mem_of_getElem? (i := 2051) (by decide +kernel)) rfl (by decide +kernel) rfl : e_Sn 78 41 (o_callV (e_s1 19 108 2) 2 44)) t_108_0 t_78_44
noncomputable def n_78_40 : e_Y := u_push (.inl 2147483648) n_78_41
theorem t_78_40 : e_Sn 78 40 (e_un n_78_40) := u_pushT (s_iconst (n := (0)) hq_78 (by decide +kernel) rfl ⟨by decide +kernel, by decide +kernel⟩ : e_Sn 78 40 (o_push (.inl 2147483648) 41)) t_78_41
noncomputable def n_78_37 : e_Y := u_getf 16 1 (u_old (o_getf (e_f1 16 1) 40) n_78_40) n_78_40
theorem t_78_37 : e_Sn 78 37 (e_un n_78_37) := u_getfT (s_getf (C := er_16) (T := et_16) (N := 5) (ref := "PlateroomprinterModel$Run") (index := 12) (ci := 16) (k := 1) hq_78 ho_78 ⟨rfl, by decide, ei_16, (List.mem_of_getElem? (i := 2151) (by decide +kernel)), .inl rfl⟩ (by decide +kernel) rfl : e_Sn 78 37 (o_getf (e_f1 16 1) 40)) t_78_40
noncomputable def n_78_36 : e_Y := u_ld f_okA f_l0 n_78_37
theorem t_78_36 : e_Sn 78 36 (e_un n_78_36) := u_ldAT f_l0_eq (s_aload (i := .aload_n 0) (len := 1) hq_78 (by decide +kernel) rfl (.inr ⟨0, rfl, rfl, rfl⟩) : e_Sn 78 36 (o_load e_okR 0 37)) t_78_37
noncomputable def n_78_33 : e_Y := n_78_52
theorem t_78_33 : e_Sn 78 33 (e_un n_78_33) := u_gotoT (s_goto (off := (19)) hq_78 (by decide +kernel) rfl : e_Sn 78 33 (o_goto 52)) t_78_52
noncomputable def n_78_30 : e_Y := u_getf 15 1 (u_old (o_getf (e_f1 15 1) 33) n_78_33) n_78_33
theorem t_78_30 : e_Sn 78 30 (e_un n_78_30) := u_getfT (s_getf (C := er_15) (T := et_15) (N := 8) (ref := "PlateroomprinterModel$Row") (index := 50) (ci := 15) (k := 1) hq_78 ho_78 ⟨rfl, by decide, ei_15, (List.mem_of_getElem? (i := 2125) (by decide +kernel)), .inl rfl⟩ (by decide +kernel) rfl : e_Sn 78 30 (o_getf (e_f1 15 1) 33)) t_78_33
noncomputable def n_78_27 : e_Y := u_old (o_cast 15 30) n_78_30
theorem t_78_27 : e_Sn 78 27 (e_un n_78_27) := u_oldT (s_cast (index := 29) hq_78 ho_78 (List.mem_of_getElem? (i := 2116) (by decide +kernel)) (.inl ⟨by decide, rfl⟩) (by decide +kernel) rfl : e_Sn 78 27 (o_cast 15 30)) t_78_30 (e_cg_cast 15)
noncomputable def n_78_24 : e_Y := u_callV 19 108 2 21 2 n_108_0 n_78_27
theorem t_78_24 : e_Sn 78 24 (e_un n_78_24) := u_callVT rfl (s_callV (ci := 19) (C := er_19) (T := et_19) (N := 3) (index := 42) hq_78 ho_78 hy_108 hp_108 hc_108 hi_108 hd_108 (List.mem_of_getElem? (i := 2182) (by decide +kernel)) hs_108 (List.mem_of_getElem? (i := 2051) (by decide +kernel)) rfl (by decide +kernel) rfl : e_Sn 78 24 (o_callV (e_s1 19 108 2) 2 27)) t_108_0 t_78_27
noncomputable def n_78_23 : e_Y := u_push (.inl 2147483648) n_78_24
theorem t_78_23 : e_Sn 78 23 (e_un n_78_23) := u_pushT (s_iconst (n := (0)) hq_78 (by decide +kernel) rfl ⟨by decide +kernel, by decide +kernel⟩ : e_Sn 78 23 (o_push (.inl 2147483648) 24)) t_78_24
noncomputable def n_78_20 : e_Y := u_getf 16 1 (u_old (o_getf (e_f1 16 1) 23) n_78_23) n_78_23
theorem t_78_20 : e_Sn 78 20 (e_un n_78_20) := u_getfT (s_getf (C := er_16) (T := et_16) (N := 5) (ref := "PlateroomprinterModel$Run") (index := 12) (ci := 16) (k := 1) hq_78 ho_78 ⟨rfl, by decide, ei_16, (List.mem_of_getElem? (i := 2151) (by decide +kernel)), .inl rfl⟩ (by decide +kernel) rfl : e_Sn 78 20 (o_getf (e_f1 16 1) 23)) t_78_23
noncomputable def n_78_19 : e_Y := u_ld f_okA f_l0 n_78_20
theorem t_78_19 : e_Sn 78 19 (e_un n_78_19) := u_ldAT f_l0_eq (s_aload (i := .aload_n 0) (len := 1) hq_78 (by decide +kernel) rfl (.inr ⟨0, rfl, rfl, rfl⟩) : e_Sn 78 19 (o_load e_okR 0 20)) t_78_20
noncomputable def n_78_16 : e_Y := u_jmp y_ne (u_old2 (o_ceq 19 36) 19 n_78_19 n_78_36) n_78_19 n_78_36
theorem t_78_16 : e_Sn 78 16 (e_un n_78_16) := u_ceqT rfl (s_cne (off := (20)) hq_78 (by decide +kernel) rfl rfl : e_Sn 78 16 (o_ceq 19 36)) t_78_19 t_78_36
noncomputable def n_78_15 : e_Y := u_push (.inl 2147483649) n_78_16
theorem t_78_15 : e_Sn 78 15 (e_un n_78_15) := u_pushT (s_iconst (n := (1)) hq_78 (by decide +kernel) rfl ⟨by decide +kernel, by decide +kernel⟩ : e_Sn 78 15 (o_push (.inl 2147483649) 16)) t_78_16
noncomputable def n_78_12 : e_Y := u_callV 19 114 1 20 1 n_114_0 n_78_15
theorem t_78_12 : e_Sn 78 12 (e_un n_78_12) := u_callVT rfl (s_callV (ci := 19) (C := er_19) (T := et_19) (N := 3) (index := 38) hq_78 ho_78 hy_114 hp_114 hc_114 hi_114 hd_114 (List.mem_of_getElem? (i := 2181) (by decide +kernel)) hs_114 (List.mem_of_getElem? (i := 2002) (by decide +kernel)) rfl (by decide +kernel) rfl : e_Sn 78 12 (o_callV (e_s1 19 114 1) 1 15)) t_114_0 t_78_15
noncomputable def n_78_9 : e_Y := u_getf 16 1 (u_old (o_getf (e_f1 16 1) 12) n_78_12) n_78_12
theorem t_78_9 : e_Sn 78 9 (e_un n_78_9) := u_getfT (s_getf (C := er_16) (T := et_16) (N := 5) (ref := "PlateroomprinterModel$Run") (index := 12) (ci := 16) (k := 1) hq_78 ho_78 ⟨rfl, by decide, ei_16, (List.mem_of_getElem? (i := 2151) (by decide +kernel)), .inl rfl⟩ (by decide +kernel) rfl : e_Sn 78 9 (o_getf (e_f1 16 1) 12)) t_78_12
noncomputable def n_78_8 : e_Y := u_ld f_okA f_l0 n_78_9
theorem t_78_8 : e_Sn 78 8 (e_un n_78_8) := u_ldAT f_l0_eq (s_aload (i := .aload_n 0) (len := 1) hq_78 (by decide +kernel) rfl (.inr ⟨0, rfl, rfl, rfl⟩) : e_Sn 78 8 (o_load e_okR 0 9)) t_78_9
noncomputable def n_78_7 : e_Y := u_ld f_okA f_l0 n_78_8
theorem t_78_7 : e_Sn 78 7 (e_un n_78_7) := u_ldAT f_l0_eq (s_aload (i := .aload_n 0) (len := 1) hq_78 (by decide +kernel) rfl (.inr ⟨0, rfl, rfl, rfl⟩) : e_Sn 78 7 (o_load e_okR 0 8)) t_78_8
noncomputable def n_78_4 : e_Y := u_if y_ne0 (u_old2 (o_ifeq 146 7) 146 n_78_146 n_78_7) n_78_146 n_78_7
theorem t_78_4 : e_Sn 78 4 (e_un n_78_4) := u_ifeqT rfl (s_ifeq (off := (142)) hq_78 (by decide +kernel) rfl rfl : e_Sn 78 4 (o_ifeq 146 7)) t_78_146 t_78_7
noncomputable def n_78_1 : e_Y := u_callV 16 83 2 21 1 n_83_0 n_78_4
theorem t_78_1 : e_Sn 78 1 (e_un n_78_1) := u_callVT rfl (s_callV (ci := 16) (C := er_16) (T := et_16) (N := 5) (index := 46) hq_78 ho_78 hy_83 hp_83 hc_83 hi_83 hd_83 (List.mem_of_getElem? (i := 2172) (by decide +kernel)) hs_83 (List.mem_of_getElem? (i := 76) (by decide +kernel)) rfl (by decide +kernel) rfl : e_Sn 78 1 (o_callV (e_s1 16 83 2) 1 4)) t_83_0 t_78_4
noncomputable def n_78_0 : e_Y := u_ld f_okA f_l0 n_78_1
theorem t_78_0 : e_Sn 78 0 (e_un n_78_0) := u_ldAT f_l0_eq (s_aload (i := .aload_n 0) (len := 1) hq_78 (by decide +kernel) rfl (.inr ⟨0, rfl, rfl, rfl⟩) : e_Sn 78 0 (o_load e_okR 0 1)) t_78_1
noncomputable def e_tb_78 : e_X := (e_lf 0 (e_un n_78_0))
theorem e_tk_78 : e_Tb 78 e_tb_78 := (e_lfT t_78_0)
theorem hq_68 : (e_ml[68]?).map (·.2.1) = some prog_14_method_31_code := rfl
theorem ho_68 : (e_ml[68]?).map (·.1.cls) = some "PlateroomprinterModel" := rfl
theorem hr_68 : (e_ml[68]?).map (·.2.2.2) = some (some .int) := rfl
noncomputable def n_68_74 : e_Y := u_retI
theorem t_68_74 : e_Sn 68 74 (e_un n_68_74) := u_retIT (s_iret hq_68 hr_68 (by decide +kernel) : e_Sn 68 74 (o_ret e_okI))
noncomputable def n_68_71 : e_Y := u_callV 12 63 4 23 4 n_63_0 n_68_74
theorem t_68_71 : e_Sn 68 71 (e_un n_68_71) := u_callVT rfl (s_callV (ci := 12) (C := er_12) (T := et_12) (N := 5) (index := 177) hq_68 ho_68 hy_63 hp_63 hc_63 hi_63 hd_63 (List.mem_of_getElem? (i := 2891) (by decide +kernel)) hs_63 (List.mem_of_getElem? (i := 121) (by decide +kernel)) rfl (by decide +kernel) rfl : e_Sn 68 71 (o_callV (e_s1 12 63 4) 4 74)) t_63_0 t_68_74
noncomputable def n_68_70 : e_Y := u_push (.inl 2147483647) n_68_71
theorem t_68_70 : e_Sn 68 70 (e_un n_68_70) := u_pushT (s_iconst (n := (-1)) hq_68 (by decide +kernel) rfl ⟨by decide +kernel, by decide +kernel⟩ : e_Sn 68 70 (o_push (.inl 2147483647) 71)) t_68_71
noncomputable def n_68_69 : e_Y := u_push (.inl 2147483647) n_68_70
theorem t_68_69 : e_Sn 68 69 (e_un n_68_69) := u_pushT (s_iconst (n := (-1)) hq_68 (by decide +kernel) rfl ⟨by decide +kernel, by decide +kernel⟩ : e_Sn 68 69 (o_push (.inl 2147483647) 70)) t_68_70
noncomputable def n_68_68 : e_Y := u_push (.inl 2147483648) n_68_69
theorem t_68_68 : e_Sn 68 68 (e_un n_68_68) := u_pushT (s_iconst (n := (0)) hq_68 (by decide +kernel) rfl ⟨by decide +kernel, by decide +kernel⟩ : e_Sn 68 68 (o_push (.inl 2147483648) 69)) t_68_69
noncomputable def n_68_67 : e_Y := u_ld f_okA f_l0 n_68_68
theorem t_68_67 : e_Sn 68 67 (e_un n_68_67) := u_ldAT f_l0_eq (s_aload (i := .aload_n 0) (len := 1) hq_68 (by decide +kernel) rfl (.inr ⟨0, rfl, rfl, rfl⟩) : e_Sn 68 67 (o_load e_okR 0 68)) t_68_68
noncomputable def n_68_64 : e_Y := u_old (o_putf (e_f1 12 2) e_okR 67) n_68_67
theorem t_68_64 : e_Sn 68 64 (e_un n_68_64) := u_oldT (s_putf (ty0 := ey_12) (ok := e_okR) (C := er_12) (T := et_12) (N := 5) (ref := "PlateroomprinterModel") (index := 19) (ci := 12) (k := 2) hq_68 ho_68 ⟨rfl, by decide, ei_12, (List.mem_of_getElem? (i := 1960) (by decide +kernel)), .inl rfl⟩ eo_12 en_12 e_oksR (.inl rfl) (by decide +kernel) rfl : e_Sn 68 64 (o_putf (e_f1 12 2) e_okR 67)) t_68_67 (e_cg_putf (e_f1 12 2) e_okR)
noncomputable def n_68_61 : e_Y := u_tab (o_callI 103 1 1 64)
theorem t_68_61 : e_Sn 68 61 (e_un n_68_61) := u_tabT (s_callI (index := 18) hq_68 ho_68 hy_103 hp_103 hc_103 hi_103 hd_103 (List.mem_of_getElem? (i := 1957) (by decide +kernel)) rfl rfl hs_103 (by decide +kernel) rfl : e_Sn 68 61 (o_callI 103 1 1 64))
noncomputable def n_68_60 : e_Y := u_old (o_dup 61) n_68_61
theorem t_68_60 : e_Sn 68 60 (e_un n_68_60) := u_oldT (s_dup hq_68 (by decide +kernel) rfl : e_Sn 68 60 (o_dup 61)) t_68_61 e_cg_dup
noncomputable def n_68_57 : e_Y := u_tab (o_new 19 3 ef_19 60)
theorem t_68_57 : e_Sn 68 57 (e_un n_68_57) := u_tabT (s_new (index := 16) (ci := 19) (N := 3) (C := er_19) (T := et_19) (ty0 := ey_19) (fv := eg_19) hq_68 ho_68 rfl ei_19 eo_19 (List.mem_of_getElem? (i := 1956) (by decide +kernel)) (List.mem_of_getElem? (i := 1751) (by decide +kernel)) (List.mem_of_getElem? (i := 155) (by decide +kernel)) eh_19 rfl (e_newrel ek_19) (by decide +kernel) rfl : e_Sn 68 57 (o_new 19 3 ef_19 60))
noncomputable def n_68_56 : e_Y := u_ld f_okA f_l0 n_68_57
theorem t_68_56 : e_Sn 68 56 (e_un n_68_56) := u_ldAT f_l0_eq (s_aload (i := .aload_n 0) (len := 1) hq_68 (by decide +kernel) rfl (.inr ⟨0, rfl, rfl, rfl⟩) : e_Sn 68 56 (o_load e_okR 0 57)) t_68_57
noncomputable def n_68_53 : e_Y := u_old (o_putf (e_f1 12 1) e_okR 56) n_68_56
theorem t_68_53 : e_Sn 68 53 (e_un n_68_53) := u_oldT (s_putf (ty0 := ey_12) (ok := e_okR) (C := er_12) (T := et_12) (N := 5) (ref := "PlateroomprinterModel") (index := 10) (ci := 12) (k := 1) hq_68 ho_68 ⟨rfl, by decide, ei_12, (List.mem_of_getElem? (i := 1959) (by decide +kernel)), .inl rfl⟩ eo_12 en_12 e_oksR (.inl rfl) (by decide +kernel) rfl : e_Sn 68 53 (o_putf (e_f1 12 1) e_okR 56)) t_68_56 (e_cg_putf (e_f1 12 1) e_okR)
noncomputable def n_68_52 : e_Y := u_ld f_okA f_l1 n_68_53
theorem t_68_52 : e_Sn 68 52 (e_un n_68_52) := u_ldAT f_l1_eq (s_aload (i := .aload_n 1) (len := 1) hq_68 (by decide +kernel) rfl (.inr ⟨1, rfl, rfl, rfl⟩) : e_Sn 68 52 (o_load e_okR 1 53)) t_68_53
noncomputable def n_68_51 : e_Y := u_ld f_okA f_l0 n_68_52
theorem t_68_51 : e_Sn 68 51 (e_un n_68_51) := u_ldAT f_l0_eq (s_aload (i := .aload_n 0) (len := 1) hq_68 (by decide +kernel) rfl (.inr ⟨0, rfl, rfl, rfl⟩) : e_Sn 68 51 (o_load e_okR 0 52)) t_68_52
noncomputable def n_68_30 : e_Y := n_68_51
theorem t_68_30 : e_Sn 68 30 (e_un n_68_30) := u_gotoT (s_goto (off := (21)) hq_68 (by decide +kernel) rfl : e_Sn 68 30 (o_goto 51)) t_68_51
noncomputable def n_68_27 : e_Y := u_callV 16 78 2 21 1 n_78_0 n_68_30
theorem t_68_27 : e_Sn 68 27 (e_un n_68_27) := u_callVT rfl (s_callV (ci := 16) (C := er_16) (T := et_16) (N := 5) (index := 166) hq_68 ho_68 hy_78 hp_78 hc_78 hi_78 hd_78 (List.mem_of_getElem? (i := 2168) (by decide +kernel)) hs_78 (List.mem_of_getElem? (i := 2170) (by decide +kernel)) rfl (by decide +kernel) rfl : e_Sn 68 27 (o_callV (e_s1 16 78 2) 1 30)) t_78_0 t_68_30
noncomputable def n_68_26 : e_Y := u_ld f_okA f_l2 n_68_27
theorem t_68_26 : e_Sn 68 26 (e_un n_68_26) := u_ldAT f_l2_eq (s_aload (i := .aload_n 2) (len := 1) hq_68 (by decide +kernel) rfl (.inr ⟨2, rfl, rfl, rfl⟩) : e_Sn 68 26 (o_load e_okR 2 27)) t_68_27
noncomputable def n_68_25 : e_Y := u_st f_okA f_s2 n_68_26
theorem t_68_25 : e_Sn 68 25 (e_un n_68_25) := u_stAT (fun _ _ _ => f_s2_eq) (s_astore (i := .astore_n 2) (len := 1) hq_68 (by decide +kernel) rfl (.inr ⟨2, rfl, rfl, rfl⟩) : e_Sn 68 25 (o_store e_okR 2 26)) t_68_26
noncomputable def n_68_22 : e_Y := u_tab (o_callI 77 3 3 25)
theorem t_68_22 : e_Sn 68 22 (e_un n_68_22) := u_tabT (s_callI (index := 163) hq_68 ho_68 hy_77 hp_77 hc_77 hi_77 hd_77 (List.mem_of_getElem? (i := 2110) (by decide +kernel)) rfl rfl hs_77 (by decide +kernel) rfl : e_Sn 68 22 (o_callI 77 3 3 25))
noncomputable def n_68_19 : e_Y := u_getf 12 2 (u_old (o_getf (e_f1 12 2) 22) n_68_22) n_68_22
theorem t_68_19 : e_Sn 68 19 (e_un n_68_19) := u_getfT (s_getf (C := er_12) (T := et_12) (N := 5) (ref := "PlateroomprinterModel") (index := 19) (ci := 12) (k := 2) hq_68 ho_68 ⟨rfl, by decide, ei_12, (List.mem_of_getElem? (i := 1960) (by decide +kernel)), .inl rfl⟩ (by decide +kernel) rfl : e_Sn 68 19 (o_getf (e_f1 12 2) 22)) t_68_22
noncomputable def n_68_18 : e_Y := u_ld f_okA f_l0 n_68_19
theorem t_68_18 : e_Sn 68 18 (e_un n_68_18) := u_ldAT f_l0_eq (s_aload (i := .aload_n 0) (len := 1) hq_68 (by decide +kernel) rfl (.inr ⟨0, rfl, rfl, rfl⟩) : e_Sn 68 18 (o_load e_okR 0 19)) t_68_19
noncomputable def n_68_17 : e_Y := u_ld f_okA f_l1 n_68_18
theorem t_68_17 : e_Sn 68 17 (e_un n_68_17) := u_ldAT f_l1_eq (s_aload (i := .aload_n 1) (len := 1) hq_68 (by decide +kernel) rfl (.inr ⟨1, rfl, rfl, rfl⟩) : e_Sn 68 17 (o_load e_okR 1 18)) t_68_18
noncomputable def n_68_16 : e_Y := u_old (o_dup 17) n_68_17
theorem t_68_16 : e_Sn 68 16 (e_un n_68_16) := u_oldT (s_dup hq_68 (by decide +kernel) rfl : e_Sn 68 16 (o_dup 17)) t_68_17 e_cg_dup
noncomputable def n_68_13 : e_Y := u_tab (o_new 16 5 ef_16 16)
theorem t_68_13 : e_Sn 68 13 (e_un n_68_13) := u_tabT (s_new (index := 161) (ci := 16) (N := 5) (C := er_16) (T := et_16) (ty0 := ey_16) (fv := eg_16) hq_68 ho_68 rfl ei_16 eo_16 (List.mem_of_getElem? (i := 2108) (by decide +kernel)) (List.mem_of_getElem? (i := 2109) (by decide +kernel)) (List.mem_of_getElem? (i := 170) (by decide +kernel)) eh_16 rfl (e_newrel ek_16) (by decide +kernel) rfl : e_Sn 68 13 (o_new 16 5 ef_16 16))
noncomputable def n_68_12 : e_Y := u_st f_okA f_s1 n_68_13
theorem t_68_12 : e_Sn 68 12 (e_un n_68_12) := u_stAT (fun _ _ _ => f_s1_eq) (s_astore (i := .astore_n 1) (len := 1) hq_68 (by decide +kernel) rfl (.inr ⟨1, rfl, rfl, rfl⟩) : e_Sn 68 12 (o_store e_okR 1 13)) t_68_13
noncomputable def n_68_9 : e_Y := u_callV 14 74 3 22 1 n_74_0 n_68_12
theorem t_68_9 : e_Sn 68 9 (e_un n_68_9) := u_callVT rfl (s_callV (ci := 14) (C := er_14) (T := et_14) (N := 13) (index := 158) hq_68 ho_68 hy_74 hp_74 hc_74 hi_74 hd_74 (List.mem_of_getElem? (i := 2042) (by decide +kernel)) hs_74 (List.mem_of_getElem? (i := 2044) (by decide +kernel)) rfl (by decide +kernel) rfl : e_Sn 68 9 (o_callV (e_s1 14 74 3) 1 12)) t_74_0 t_68_12
noncomputable def n_68_6 : e_Y := u_getf 12 1 (u_old (o_getf (e_f1 12 1) 9) n_68_9) n_68_9
theorem t_68_6 : e_Sn 68 6 (e_un n_68_6) := u_getfT (s_getf (C := er_12) (T := et_12) (N := 5) (ref := "PlateroomprinterModel") (index := 10) (ci := 12) (k := 1) hq_68 ho_68 ⟨rfl, by decide, ei_12, (List.mem_of_getElem? (i := 1959) (by decide +kernel)), .inl rfl⟩ (by decide +kernel) rfl : e_Sn 68 6 (o_getf (e_f1 12 1) 9)) t_68_9
noncomputable def n_68_5 : e_Y := u_ld f_okA f_l0 n_68_6
theorem t_68_5 : e_Sn 68 5 (e_un n_68_5) := u_ldAT f_l0_eq (s_aload (i := .aload_n 0) (len := 1) hq_68 (by decide +kernel) rfl (.inr ⟨0, rfl, rfl, rfl⟩) : e_Sn 68 5 (o_load e_okR 0 6)) t_68_6
noncomputable def n_68_2 : e_Y := u_old (o_putf (e_f1 12 0) e_okI 5) n_68_5
theorem t_68_2 : e_Sn 68 2 (e_un n_68_2) := u_oldT (s_putf (ty0 := ey_12) (ok := e_okI) (C := er_12) (T := et_12) (N := 5) (ref := "PlateroomprinterModel") (index := 124) (ci := 12) (k := 0) hq_68 ho_68 ⟨rfl, by decide, ei_12, (List.mem_of_getElem? (i := 1958) (by decide +kernel)), .inl rfl⟩ eo_12 en_12 e_oksI (.inl rfl) (by decide +kernel) rfl : e_Sn 68 2 (o_putf (e_f1 12 0) e_okI 5)) t_68_5 (e_cg_putf (e_f1 12 0) e_okI)
noncomputable def n_68_1 : e_Y := u_push (.inl 2147483648) n_68_2
theorem t_68_1 : e_Sn 68 1 (e_un n_68_1) := u_pushT (s_iconst (n := (0)) hq_68 (by decide +kernel) rfl ⟨by decide +kernel, by decide +kernel⟩ : e_Sn 68 1 (o_push (.inl 2147483648) 2)) t_68_2
noncomputable def n_68_0 : e_Y := u_ld f_okA f_l0 n_68_1
theorem t_68_0 : e_Sn 68 0 (e_un n_68_0) := u_ldAT f_l0_eq (s_aload (i := .aload_n 0) (len := 1) hq_68 (by decide +kernel) rfl (.inr ⟨0, rfl, rfl, rfl⟩) : e_Sn 68 0 (o_load e_okR 0 1)) t_68_1
noncomputable def e_tb_68 : e_X := (e_br 25 (e_br 16 (e_lf 0 (e_un n_68_0)) (e_lf 16 (e_un n_68_16))) (e_br 60 (e_lf 25 (e_un n_68_25)) (e_br 64 (e_lf 60 (e_un n_68_60)) (e_lf 64 (e_un n_68_64)))))
theorem e_tk_68 : e_Tb 68 e_tb_68 := (e_brT (e_brT (e_lfT t_68_0) (e_lfT t_68_16)) (e_brT (e_lfT t_68_25) (e_brT (e_lfT t_68_60) (e_lfT t_68_64))))
theorem hq_69 : (e_ml[69]?).map (·.2.1) = some prog_14_method_24_code := rfl
theorem ho_69 : (e_ml[69]?).map (·.1.cls) = some "PlateroomprinterModel" := rfl
theorem hr_69 : (e_ml[69]?).map (·.2.2.2) = some (some .boolean) := rfl
noncomputable def n_69_11 : e_Y := u_tab (o_ret e_okZ)
theorem t_69_11 : e_Sn 69 11 (e_un n_69_11) := u_tabT (s_zret hq_69 hr_69 (by decide +kernel) : e_Sn 69 11 (o_ret e_okZ))
noncomputable def n_69_8 : e_Y := u_callV 12 67 3 22 3 n_67_0 n_69_11
theorem t_69_8 : e_Sn 69 8 (e_un n_69_8) := u_callVT rfl (s_callV (ci := 12) (C := er_12) (T := et_12) (N := 5) (index := 128) hq_69 ho_69 hy_67 hp_67 hc_67 hi_67 hd_67 (List.mem_of_getElem? (i := 1996) (by decide +kernel)) hs_67 (List.mem_of_getElem? (i := 74) (by decide +kernel)) rfl (by decide +kernel) rfl : e_Sn 69 8 (o_callV (e_s1 12 67 3) 3 11)) t_67_0 t_69_11
noncomputable def n_69_7 : e_Y := u_ld f_okI f_l2 n_69_8
theorem t_69_7 : e_Sn 69 7 (e_un n_69_7) := u_ldIT f_l2_eq (s_iload (i := .iload_n 2) (len := 1) hq_69 (by decide +kernel) rfl (.inr ⟨2, rfl, rfl, rfl⟩) : e_Sn 69 7 (o_load e_okI 2 8)) t_69_8
noncomputable def n_69_6 : e_Y := u_ld f_okI f_l1 n_69_7
theorem t_69_6 : e_Sn 69 6 (e_un n_69_6) := u_ldIT f_l1_eq (s_iload (i := .iload_n 1) (len := 1) hq_69 (by decide +kernel) rfl (.inr ⟨1, rfl, rfl, rfl⟩) : e_Sn 69 6 (o_load e_okI 1 7)) t_69_7
noncomputable def n_69_5 : e_Y := u_ld f_okA f_l0 n_69_6
theorem t_69_5 : e_Sn 69 5 (e_un n_69_5) := u_ldAT f_l0_eq (s_aload (i := .aload_n 0) (len := 1) hq_69 (by decide +kernel) rfl (.inr ⟨0, rfl, rfl, rfl⟩) : e_Sn 69 5 (o_load e_okR 0 6)) t_69_6
noncomputable def n_69_2 : e_Y := u_old (o_putf (e_f1 12 0) e_okI 5) n_69_5
theorem t_69_2 : e_Sn 69 2 (e_un n_69_2) := u_oldT (s_putf (ty0 := ey_12) (ok := e_okI) (C := er_12) (T := et_12) (N := 5) (ref := "PlateroomprinterModel") (index := 124) (ci := 12) (k := 0) hq_69 ho_69 ⟨rfl, by decide, ei_12, (List.mem_of_getElem? (i := 1958) (by decide +kernel)), .inl rfl⟩ eo_12 en_12 e_oksI (.inl rfl) (by decide +kernel) rfl : e_Sn 69 2 (o_putf (e_f1 12 0) e_okI 5)) t_69_5 (e_cg_putf (e_f1 12 0) e_okI)
noncomputable def n_69_1 : e_Y := u_push (.inl 2147483648) n_69_2
theorem t_69_1 : e_Sn 69 1 (e_un n_69_1) := u_pushT (s_iconst (n := (0)) hq_69 (by decide +kernel) rfl ⟨by decide +kernel, by decide +kernel⟩ : e_Sn 69 1 (o_push (.inl 2147483648) 2)) t_69_2
noncomputable def n_69_0 : e_Y := u_ld f_okA f_l0 n_69_1
theorem t_69_0 : e_Sn 69 0 (e_un n_69_0) := u_ldAT f_l0_eq (s_aload (i := .aload_n 0) (len := 1) hq_69 (by decide +kernel) rfl (.inr ⟨0, rfl, rfl, rfl⟩) : e_Sn 69 0 (o_load e_okR 0 1)) t_69_1
noncomputable def e_tb_69 : e_X := (e_lf 0 (e_un n_69_0))
theorem e_tk_69 : e_Tb 69 e_tb_69 := (e_lfT t_69_0)
theorem hq_70 : (e_ml[70]?).map (·.2.1) = some prog_14_method_27_code := rfl
theorem ho_70 : (e_ml[70]?).map (·.1.cls) = some "PlateroomprinterModel" := rfl
theorem hr_70 : (e_ml[70]?).map (·.2.2.2) = some (some .int) := rfl
noncomputable def n_70_139 : e_Y := u_retI
theorem t_70_139 : e_Sn 70 139 (e_un n_70_139) := u_retIT (s_iret hq_70 hr_70 (by decide +kernel) : e_Sn 70 139 (o_ret e_okI))
noncomputable def n_70_136 : e_Y := u_callV 19 114 1 20 1 n_114_0 n_70_139
theorem t_70_136 : e_Sn 70 136 (e_un n_70_136) := u_callVT rfl (s_callV (ci := 19) (C := er_19) (T := et_19) (N := 3) (index := 74) hq_70 ho_70 hy_114 hp_114 hc_114 hi_114 hd_114 (List.mem_of_getElem? (i := 2000) (by decide +kernel)) hs_114 (List.mem_of_getElem? (i := 2002) (by decide +kernel)) rfl (by decide +kernel) rfl : e_Sn 70 136 (o_callV (e_s1 19 114 1) 1 139)) t_114_0 t_70_139
noncomputable def n_70_133 : e_Y := u_getf 12 2 (u_old (o_getf (e_f1 12 2) 136) n_70_136) n_70_136
theorem t_70_133 : e_Sn 70 133 (e_un n_70_133) := u_getfT (s_getf (C := er_12) (T := et_12) (N := 5) (ref := "PlateroomprinterModel") (index := 19) (ci := 12) (k := 2) hq_70 ho_70 ⟨rfl, by decide, ei_12, (List.mem_of_getElem? (i := 1960) (by decide +kernel)), .inl rfl⟩ (by decide +kernel) rfl : e_Sn 70 133 (o_getf (e_f1 12 2) 136)) t_70_136
noncomputable def n_70_132 : e_Y := u_ld f_okA f_l0 n_70_133
theorem t_70_132 : e_Sn 70 132 (e_un n_70_132) := u_ldAT f_l0_eq (s_aload (i := .aload_n 0) (len := 1) hq_70 (by decide +kernel) rfl (.inr ⟨0, rfl, rfl, rfl⟩) : e_Sn 70 132 (o_load e_okR 0 133)) t_70_133
noncomputable def n_70_131 : e_Y := u_pop n_70_132
theorem t_70_131 : e_Sn 70 131 (e_un n_70_131) := u_popT (s_pop hq_70 (by decide +kernel) rfl : e_Sn 70 131 (o_pop 132)) t_70_132
noncomputable def n_70_128 : e_Y := u_callV 19 104 2 21 2 n_104_0 n_70_131
theorem t_70_128 : e_Sn 70 128 (e_un n_70_128) := u_callVT rfl (s_callV (ci := 19) (C := er_19) (T := et_19) (N := 3) (index := 88) hq_70 ho_70 hy_104 hp_104 hc_104 hi_104 hd_104 (List.mem_of_getElem? (i := 2004) (by decide +kernel)) hs_104 (List.mem_of_getElem? (i := 1822) (by decide +kernel)) rfl (by decide +kernel) rfl : e_Sn 70 128 (o_callV (e_s1 19 104 2) 2 131)) t_104_0 t_70_131
noncomputable def n_70_127 : e_Y := u_old (o_ast 0 e_okI 128) n_70_128
theorem t_70_127 : e_Sn 70 127 (e_un n_70_127) := u_oldT (s_iast hq_70 (by decide +kernel) rfl : e_Sn 70 127 (o_ast 0 e_okI 128)) t_70_128 (e_cg_ast 0 e_okI)
noncomputable def n_70_125 : e_Y := u_ld f_okI f_l6 n_70_127
theorem t_70_125 : e_Sn 70 125 (e_un n_70_125) := u_ldIT f_l6_eq (s_iload (i := .iload 6) (len := 2) hq_70 (by decide +kernel) rfl (.inl ⟨rfl, rfl⟩) : e_Sn 70 125 (o_load e_okI 6 127)) t_70_127
noncomputable def n_70_124 : e_Y := u_push (.inl 2147483649) n_70_125
theorem t_70_124 : e_Sn 70 124 (e_un n_70_124) := u_pushT (s_iconst (n := (1)) hq_70 (by decide +kernel) rfl ⟨by decide +kernel, by decide +kernel⟩ : e_Sn 70 124 (o_push (.inl 2147483649) 125)) t_70_125
noncomputable def n_70_123 : e_Y := u_old (o_dup 124) n_70_124
theorem t_70_123 : e_Sn 70 123 (e_un n_70_123) := u_oldT (s_dup hq_70 (by decide +kernel) rfl : e_Sn 70 123 (o_dup 124)) t_70_124 e_cg_dup
noncomputable def n_70_122 : e_Y := u_old (o_ast 0 e_okI 123) n_70_123
theorem t_70_122 : e_Sn 70 122 (e_un n_70_122) := u_oldT (s_iast hq_70 (by decide +kernel) rfl : e_Sn 70 122 (o_ast 0 e_okI 123)) t_70_123 (e_cg_ast 0 e_okI)
noncomputable def n_70_120 : e_Y := u_ld f_okI f_l5 n_70_122
theorem t_70_120 : e_Sn 70 120 (e_un n_70_120) := u_ldIT f_l5_eq (s_iload (i := .iload 5) (len := 2) hq_70 (by decide +kernel) rfl (.inl ⟨rfl, rfl⟩) : e_Sn 70 120 (o_load e_okI 5 122)) t_70_122
noncomputable def n_70_119 : e_Y := u_push (.inl 2147483648) n_70_120
theorem t_70_119 : e_Sn 70 119 (e_un n_70_119) := u_pushT (s_iconst (n := (0)) hq_70 (by decide +kernel) rfl ⟨by decide +kernel, by decide +kernel⟩ : e_Sn 70 119 (o_push (.inl 2147483648) 120)) t_70_120
noncomputable def n_70_118 : e_Y := u_old (o_dup 119) n_70_119
theorem t_70_118 : e_Sn 70 118 (e_un n_70_118) := u_oldT (s_dup hq_70 (by decide +kernel) rfl : e_Sn 70 118 (o_dup 119)) t_70_119 e_cg_dup
noncomputable def n_70_116 : e_Y := u_tab (o_newa 0 (e_I 2147483648) 118)
theorem t_70_116 : e_Sn 70 116 (e_un n_70_116) := u_tabT (s_newI (List.mem_of_getElem? (i := 215) (by decide +kernel)) hq_70 (by decide +kernel) rfl : e_Sn 70 116 (o_newa 0 (e_I 2147483648) 118))
noncomputable def n_70_115 : e_Y := u_push (.inl 2147483650) n_70_116
theorem t_70_115 : e_Sn 70 115 (e_un n_70_115) := u_pushT (s_iconst (n := (2)) hq_70 (by decide +kernel) rfl ⟨by decide +kernel, by decide +kernel⟩ : e_Sn 70 115 (o_push (.inl 2147483650) 116)) t_70_116
noncomputable def n_70_112 : e_Y := u_getf 12 2 (u_old (o_getf (e_f1 12 2) 115) n_70_115) n_70_115
theorem t_70_112 : e_Sn 70 112 (e_un n_70_112) := u_getfT (s_getf (C := er_12) (T := et_12) (N := 5) (ref := "PlateroomprinterModel") (index := 19) (ci := 12) (k := 2) hq_70 ho_70 ⟨rfl, by decide, ei_12, (List.mem_of_getElem? (i := 1960) (by decide +kernel)), .inl rfl⟩ (by decide +kernel) rfl : e_Sn 70 112 (o_getf (e_f1 12 2) 115)) t_70_115
noncomputable def n_70_111 : e_Y := u_ld f_okA f_l0 n_70_112
theorem t_70_111 : e_Sn 70 111 (e_un n_70_111) := u_ldAT f_l0_eq (s_aload (i := .aload_n 0) (len := 1) hq_70 (by decide +kernel) rfl (.inr ⟨0, rfl, rfl, rfl⟩) : e_Sn 70 111 (o_load e_okR 0 112)) t_70_112
noncomputable def n_70_110 : e_Y := u_pop n_70_111
theorem t_70_110 : e_Sn 70 110 (e_un n_70_110) := u_popT (s_pop hq_70 (by decide +kernel) rfl : e_Sn 70 110 (o_pop 111)) t_70_111
noncomputable def n_70_107 : e_Y := u_callV 19 104 2 21 2 n_104_0 n_70_110
theorem t_70_107 : e_Sn 70 107 (e_un n_70_107) := u_callVT rfl (s_callV (ci := 19) (C := er_19) (T := et_19) (N := 3) (index := 88) hq_70 ho_70 hy_104 hp_104 hc_104 hi_104 hd_104 (List.mem_of_getElem? (i := 2004) (by decide +kernel)) hs_104 (List.mem_of_getElem? (i := 1822) (by decide +kernel)) rfl (by decide +kernel) rfl : e_Sn 70 107 (o_callV (e_s1 19 104 2) 2 110)) t_104_0 t_70_110
noncomputable def n_70_106 : e_Y := u_old (o_ast 0 e_okI 107) n_70_107
theorem t_70_106 : e_Sn 70 106 (e_un n_70_106) := u_oldT (s_iast hq_70 (by decide +kernel) rfl : e_Sn 70 106 (o_ast 0 e_okI 107)) t_70_107 (e_cg_ast 0 e_okI)
noncomputable def n_70_104 : e_Y := u_ld f_okI f_l4 n_70_106
theorem t_70_104 : e_Sn 70 104 (e_un n_70_104) := u_ldIT f_l4_eq (s_iload (i := .iload 4) (len := 2) hq_70 (by decide +kernel) rfl (.inl ⟨rfl, rfl⟩) : e_Sn 70 104 (o_load e_okI 4 106)) t_70_106
noncomputable def n_70_103 : e_Y := u_push (.inl 2147483649) n_70_104
theorem t_70_103 : e_Sn 70 103 (e_un n_70_103) := u_pushT (s_iconst (n := (1)) hq_70 (by decide +kernel) rfl ⟨by decide +kernel, by decide +kernel⟩ : e_Sn 70 103 (o_push (.inl 2147483649) 104)) t_70_104
noncomputable def n_70_102 : e_Y := u_old (o_dup 103) n_70_103
theorem t_70_102 : e_Sn 70 102 (e_un n_70_102) := u_oldT (s_dup hq_70 (by decide +kernel) rfl : e_Sn 70 102 (o_dup 103)) t_70_103 e_cg_dup
noncomputable def n_70_101 : e_Y := u_old (o_ast 0 e_okI 102) n_70_102
theorem t_70_101 : e_Sn 70 101 (e_un n_70_101) := u_oldT (s_iast hq_70 (by decide +kernel) rfl : e_Sn 70 101 (o_ast 0 e_okI 102)) t_70_102 (e_cg_ast 0 e_okI)
noncomputable def n_70_100 : e_Y := u_ld f_okI f_l3 n_70_101
theorem t_70_100 : e_Sn 70 100 (e_un n_70_100) := u_ldIT f_l3_eq (s_iload (i := .iload_n 3) (len := 1) hq_70 (by decide +kernel) rfl (.inr ⟨3, rfl, rfl, rfl⟩) : e_Sn 70 100 (o_load e_okI 3 101)) t_70_101
noncomputable def n_70_99 : e_Y := u_push (.inl 2147483648) n_70_100
theorem t_70_99 : e_Sn 70 99 (e_un n_70_99) := u_pushT (s_iconst (n := (0)) hq_70 (by decide +kernel) rfl ⟨by decide +kernel, by decide +kernel⟩ : e_Sn 70 99 (o_push (.inl 2147483648) 100)) t_70_100
noncomputable def n_70_98 : e_Y := u_old (o_dup 99) n_70_99
theorem t_70_98 : e_Sn 70 98 (e_un n_70_98) := u_oldT (s_dup hq_70 (by decide +kernel) rfl : e_Sn 70 98 (o_dup 99)) t_70_99 e_cg_dup
noncomputable def n_70_96 : e_Y := u_tab (o_newa 0 (e_I 2147483648) 98)
theorem t_70_96 : e_Sn 70 96 (e_un n_70_96) := u_tabT (s_newI (List.mem_of_getElem? (i := 215) (by decide +kernel)) hq_70 (by decide +kernel) rfl : e_Sn 70 96 (o_newa 0 (e_I 2147483648) 98))
noncomputable def n_70_95 : e_Y := u_push (.inl 2147483650) n_70_96
theorem t_70_95 : e_Sn 70 95 (e_un n_70_95) := u_pushT (s_iconst (n := (2)) hq_70 (by decide +kernel) rfl ⟨by decide +kernel, by decide +kernel⟩ : e_Sn 70 95 (o_push (.inl 2147483650) 96)) t_70_96
noncomputable def n_70_92 : e_Y := u_getf 12 2 (u_old (o_getf (e_f1 12 2) 95) n_70_95) n_70_95
theorem t_70_92 : e_Sn 70 92 (e_un n_70_92) := u_getfT (s_getf (C := er_12) (T := et_12) (N := 5) (ref := "PlateroomprinterModel") (index := 19) (ci := 12) (k := 2) hq_70 ho_70 ⟨rfl, by decide, ei_12, (List.mem_of_getElem? (i := 1960) (by decide +kernel)), .inl rfl⟩ (by decide +kernel) rfl : e_Sn 70 92 (o_getf (e_f1 12 2) 95)) t_70_95
noncomputable def n_70_91 : e_Y := u_ld f_okA f_l0 n_70_92
theorem t_70_91 : e_Sn 70 91 (e_un n_70_91) := u_ldAT f_l0_eq (s_aload (i := .aload_n 0) (len := 1) hq_70 (by decide +kernel) rfl (.inr ⟨0, rfl, rfl, rfl⟩) : e_Sn 70 91 (o_load e_okR 0 92)) t_70_92
noncomputable def n_70_90 : e_Y := u_pop n_70_91
theorem t_70_90 : e_Sn 70 90 (e_un n_70_90) := u_popT (s_pop hq_70 (by decide +kernel) rfl : e_Sn 70 90 (o_pop 91)) t_70_91
noncomputable def n_70_87 : e_Y := u_callV 19 104 2 21 2 n_104_0 n_70_90
theorem t_70_87 : e_Sn 70 87 (e_un n_70_87) := u_callVT rfl (s_callV (ci := 19) (C := er_19) (T := et_19) (N := 3) (index := 88) hq_70 ho_70 hy_104 hp_104 hc_104 hi_104 hd_104 (List.mem_of_getElem? (i := 2004) (by decide +kernel)) hs_104 (List.mem_of_getElem? (i := 1822) (by decide +kernel)) rfl (by decide +kernel) rfl : e_Sn 70 87 (o_callV (e_s1 19 104 2) 2 90)) t_104_0 t_70_90
noncomputable def n_70_86 : e_Y := u_old (o_ast 0 e_okI 87) n_70_87
theorem t_70_86 : e_Sn 70 86 (e_un n_70_86) := u_oldT (s_iast hq_70 (by decide +kernel) rfl : e_Sn 70 86 (o_ast 0 e_okI 87)) t_70_87 (e_cg_ast 0 e_okI)
noncomputable def n_70_85 : e_Y := u_ld f_okI f_l2 n_70_86
theorem t_70_85 : e_Sn 70 85 (e_un n_70_85) := u_ldIT f_l2_eq (s_iload (i := .iload_n 2) (len := 1) hq_70 (by decide +kernel) rfl (.inr ⟨2, rfl, rfl, rfl⟩) : e_Sn 70 85 (o_load e_okI 2 86)) t_70_86
noncomputable def n_70_84 : e_Y := u_push (.inl 2147483649) n_70_85
theorem t_70_84 : e_Sn 70 84 (e_un n_70_84) := u_pushT (s_iconst (n := (1)) hq_70 (by decide +kernel) rfl ⟨by decide +kernel, by decide +kernel⟩ : e_Sn 70 84 (o_push (.inl 2147483649) 85)) t_70_85
noncomputable def n_70_83 : e_Y := u_old (o_dup 84) n_70_84
theorem t_70_83 : e_Sn 70 83 (e_un n_70_83) := u_oldT (s_dup hq_70 (by decide +kernel) rfl : e_Sn 70 83 (o_dup 84)) t_70_84 e_cg_dup
noncomputable def n_70_82 : e_Y := u_old (o_ast 0 e_okI 83) n_70_83
theorem t_70_82 : e_Sn 70 82 (e_un n_70_82) := u_oldT (s_iast hq_70 (by decide +kernel) rfl : e_Sn 70 82 (o_ast 0 e_okI 83)) t_70_83 (e_cg_ast 0 e_okI)
noncomputable def n_70_81 : e_Y := u_ld f_okI f_l1 n_70_82
theorem t_70_81 : e_Sn 70 81 (e_un n_70_81) := u_ldIT f_l1_eq (s_iload (i := .iload_n 1) (len := 1) hq_70 (by decide +kernel) rfl (.inr ⟨1, rfl, rfl, rfl⟩) : e_Sn 70 81 (o_load e_okI 1 82)) t_70_82
noncomputable def n_70_80 : e_Y := u_push (.inl 2147483648) n_70_81
theorem t_70_80 : e_Sn 70 80 (e_un n_70_80) := u_pushT (s_iconst (n := (0)) hq_70 (by decide +kernel) rfl ⟨by decide +kernel, by decide +kernel⟩ : e_Sn 70 80 (o_push (.inl 2147483648) 81)) t_70_81
noncomputable def n_70_79 : e_Y := u_old (o_dup 80) n_70_80
theorem t_70_79 : e_Sn 70 79 (e_un n_70_79) := u_oldT (s_dup hq_70 (by decide +kernel) rfl : e_Sn 70 79 (o_dup 80)) t_70_80 e_cg_dup
noncomputable def n_70_77 : e_Y := u_tab (o_newa 0 (e_I 2147483648) 79)
theorem t_70_77 : e_Sn 70 77 (e_un n_70_77) := u_tabT (s_newI (List.mem_of_getElem? (i := 215) (by decide +kernel)) hq_70 (by decide +kernel) rfl : e_Sn 70 77 (o_newa 0 (e_I 2147483648) 79))
noncomputable def n_70_76 : e_Y := u_push (.inl 2147483650) n_70_77
theorem t_70_76 : e_Sn 70 76 (e_un n_70_76) := u_pushT (s_iconst (n := (2)) hq_70 (by decide +kernel) rfl ⟨by decide +kernel, by decide +kernel⟩ : e_Sn 70 76 (o_push (.inl 2147483650) 77)) t_70_77
noncomputable def n_70_73 : e_Y := u_getf 12 2 (u_old (o_getf (e_f1 12 2) 76) n_70_76) n_70_76
theorem t_70_73 : e_Sn 70 73 (e_un n_70_73) := u_getfT (s_getf (C := er_12) (T := et_12) (N := 5) (ref := "PlateroomprinterModel") (index := 19) (ci := 12) (k := 2) hq_70 ho_70 ⟨rfl, by decide, ei_12, (List.mem_of_getElem? (i := 1960) (by decide +kernel)), .inl rfl⟩ (by decide +kernel) rfl : e_Sn 70 73 (o_getf (e_f1 12 2) 76)) t_70_76
noncomputable def n_70_72 : e_Y := u_ld f_okA f_l0 n_70_73
theorem t_70_72 : e_Sn 70 72 (e_un n_70_72) := u_ldAT f_l0_eq (s_aload (i := .aload_n 0) (len := 1) hq_70 (by decide +kernel) rfl (.inr ⟨0, rfl, rfl, rfl⟩) : e_Sn 70 72 (o_load e_okR 0 73)) t_70_73
noncomputable def n_70_67 : e_Y := u_if y_ne0 (u_old2 (o_ifeq 72 70) 72 n_70_72 (u_at 70)) n_70_72 (u_at 70)
theorem t_70_67 : e_Sn 70 67 (e_un n_70_67) := u_ifeqT rfl (s_ifeq (off := (5)) hq_70 (by decide +kernel) rfl rfl : e_Sn 70 67 (o_ifeq 72 70)) t_70_72 u_atT
noncomputable def n_70_64 : e_Y := u_callV 12 67 3 22 3 n_67_0 n_70_67
theorem t_70_64 : e_Sn 70 64 (e_un n_70_64) := u_callVT rfl (s_callV (ci := 12) (C := er_12) (T := et_12) (N := 5) (index := 128) hq_70 ho_70 hy_67 hp_67 hc_67 hi_67 hd_67 (List.mem_of_getElem? (i := 1996) (by decide +kernel)) hs_67 (List.mem_of_getElem? (i := 74) (by decide +kernel)) rfl (by decide +kernel) rfl : e_Sn 70 64 (o_callV (e_s1 12 67 3) 3 67)) t_67_0 t_70_67
noncomputable def n_70_63 : e_Y := u_push (.inl 2147483650) n_70_64
theorem t_70_63 : e_Sn 70 63 (e_un n_70_63) := u_pushT (s_iconst (n := (2)) hq_70 (by decide +kernel) rfl ⟨by decide +kernel, by decide +kernel⟩ : e_Sn 70 63 (o_push (.inl 2147483650) 64)) t_70_64
noncomputable def n_70_62 : e_Y := u_push (.inl 2147483648) n_70_63
theorem t_70_62 : e_Sn 70 62 (e_un n_70_62) := u_pushT (s_iconst (n := (0)) hq_70 (by decide +kernel) rfl ⟨by decide +kernel, by decide +kernel⟩ : e_Sn 70 62 (o_push (.inl 2147483648) 63)) t_70_63
noncomputable def n_70_55 : e_Y := u_jmp y_le (u_old2 (o_cgt 58 62) 58 (u_at 58) n_70_62) (u_at 58) n_70_62
theorem t_70_55 : e_Sn 70 55 (e_un n_70_55) := u_cgtT rfl (s_cle (off := (7)) hq_70 (by decide +kernel) rfl rfl : e_Sn 70 55 (o_cgt 58 62)) u_atT t_70_62
noncomputable def n_70_52 : e_Y := u_push (.inl 2147484045) n_70_55
theorem t_70_52 : e_Sn 70 52 (e_un n_70_52) := u_pushT (s_sipush (n := (397)) hq_70 (by decide +kernel) rfl ⟨by decide +kernel, by decide +kernel⟩ : e_Sn 70 52 (o_push (.inl 2147484045) 55)) t_70_55
noncomputable def n_70_49 : e_Y := u_callV 19 114 1 20 1 n_114_0 n_70_52
theorem t_70_49 : e_Sn 70 49 (e_un n_70_49) := u_callVT rfl (s_callV (ci := 19) (C := er_19) (T := et_19) (N := 3) (index := 74) hq_70 ho_70 hy_114 hp_114 hc_114 hi_114 hd_114 (List.mem_of_getElem? (i := 2000) (by decide +kernel)) hs_114 (List.mem_of_getElem? (i := 2002) (by decide +kernel)) rfl (by decide +kernel) rfl : e_Sn 70 49 (o_callV (e_s1 19 114 1) 1 52)) t_114_0 t_70_52
noncomputable def n_70_46 : e_Y := u_getf 12 2 (u_old (o_getf (e_f1 12 2) 49) n_70_49) n_70_49
theorem t_70_46 : e_Sn 70 46 (e_un n_70_46) := u_getfT (s_getf (C := er_12) (T := et_12) (N := 5) (ref := "PlateroomprinterModel") (index := 19) (ci := 12) (k := 2) hq_70 ho_70 ⟨rfl, by decide, ei_12, (List.mem_of_getElem? (i := 1960) (by decide +kernel)), .inl rfl⟩ (by decide +kernel) rfl : e_Sn 70 46 (o_getf (e_f1 12 2) 49)) t_70_49
noncomputable def n_70_45 : e_Y := u_ld f_okA f_l0 n_70_46
theorem t_70_45 : e_Sn 70 45 (e_un n_70_45) := u_ldAT f_l0_eq (s_aload (i := .aload_n 0) (len := 1) hq_70 (by decide +kernel) rfl (.inr ⟨0, rfl, rfl, rfl⟩) : e_Sn 70 45 (o_load e_okR 0 46)) t_70_46
noncomputable def n_70_44 : e_Y := u_ld f_okA f_l0 n_70_45
theorem t_70_44 : e_Sn 70 44 (e_un n_70_44) := u_ldAT f_l0_eq (s_aload (i := .aload_n 0) (len := 1) hq_70 (by decide +kernel) rfl (.inr ⟨0, rfl, rfl, rfl⟩) : e_Sn 70 44 (o_load e_okR 0 45)) t_70_45
noncomputable def n_70_41 : e_Y := u_if y_ne0 (u_old2 (o_ifeq 44 70) 44 n_70_44 (u_at 70)) n_70_44 (u_at 70)
theorem t_70_41 : e_Sn 70 41 (e_un n_70_41) := u_ifeqT rfl (s_ifne (off := (29)) hq_70 (by decide +kernel) rfl rfl : e_Sn 70 41 (o_ifeq 44 70)) t_70_44 u_atT
noncomputable def n_70_38 : e_Y := u_callV 12 69 3 22 3 n_69_0 n_70_41
theorem t_70_38 : e_Sn 70 38 (e_un n_70_38) := u_callVT rfl (s_callV (ci := 12) (C := er_12) (T := et_12) (N := 5) (index := 148) hq_70 ho_70 hy_69 hp_69 hc_69 hi_69 hd_69 (List.mem_of_getElem? (i := 1992) (by decide +kernel)) hs_69 (List.mem_of_getElem? (i := 73) (by decide +kernel)) rfl (by decide +kernel) rfl : e_Sn 70 38 (o_callV (e_s1 12 69 3) 3 41)) t_69_0 t_70_41
noncomputable def n_70_37 : e_Y := u_push (.inl 2147483649) n_70_38
theorem t_70_37 : e_Sn 70 37 (e_un n_70_37) := u_pushT (s_iconst (n := (1)) hq_70 (by decide +kernel) rfl ⟨by decide +kernel, by decide +kernel⟩ : e_Sn 70 37 (o_push (.inl 2147483649) 38)) t_70_38
noncomputable def n_70_35 : e_Y := u_ld f_okI f_l7 n_70_37
theorem t_70_35 : e_Sn 70 35 (e_un n_70_35) := u_ldIT f_l7_eq (s_iload (i := .iload 7) (len := 2) hq_70 (by decide +kernel) rfl (.inl ⟨rfl, rfl⟩) : e_Sn 70 35 (o_load e_okI 7 37)) t_70_37
noncomputable def n_70_34 : e_Y := u_ld f_okA f_l0 n_70_35
theorem t_70_34 : e_Sn 70 34 (e_un n_70_34) := u_ldAT f_l0_eq (s_aload (i := .aload_n 0) (len := 1) hq_70 (by decide +kernel) rfl (.inr ⟨0, rfl, rfl, rfl⟩) : e_Sn 70 34 (o_load e_okR 0 35)) t_70_35
noncomputable def n_70_32 : e_Y := u_st f_okI f_s7 n_70_34
theorem t_70_32 : e_Sn 70 32 (e_un n_70_32) := u_stIT (fun _ _ _ => f_s7_eq) (s_istore (i := .istore 7) (len := 2) hq_70 (by decide +kernel) rfl (.inl ⟨rfl, rfl⟩) : e_Sn 70 32 (o_store e_okI 7 34)) t_70_34
noncomputable def n_70_31 : e_Y := u_push (.inl 2147483648) n_70_32
theorem t_70_31 : e_Sn 70 31 (e_un n_70_31) := u_pushT (s_iconst (n := (0)) hq_70 (by decide +kernel) rfl ⟨by decide +kernel, by decide +kernel⟩ : e_Sn 70 31 (o_push (.inl 2147483648) 32)) t_70_32
noncomputable def n_70_24 : e_Y := u_if y_ne0 (u_old2 (o_ifeq 31 27) 31 n_70_31 (u_at 27)) n_70_31 (u_at 27)
theorem t_70_24 : e_Sn 70 24 (e_un n_70_24) := u_ifeqT rfl (s_ifeq (off := (7)) hq_70 (by decide +kernel) rfl rfl : e_Sn 70 24 (o_ifeq 31 27)) t_70_31 u_atT
noncomputable def n_70_21 : e_Y := u_callS 65 2 21 2 n_65_0 n_70_24
theorem t_70_21 : e_Sn 70 21 (e_un n_70_21) := u_callST rfl (s_callS (index := 144) hq_70 ho_70 hy_65 hp_65 hc_65 hi_65 hd_65 (List.mem_of_getElem? (i := 1982) (by decide +kernel)) hs_65 (by decide +kernel) rfl : e_Sn 70 21 (o_callS 65 2 2 24)) t_65_0 t_70_24
noncomputable def n_70_19 : e_Y := u_ld f_okI f_l6 n_70_21
theorem t_70_19 : e_Sn 70 19 (e_un n_70_19) := u_ldIT f_l6_eq (s_iload (i := .iload 6) (len := 2) hq_70 (by decide +kernel) rfl (.inl ⟨rfl, rfl⟩) : e_Sn 70 19 (o_load e_okI 6 21)) t_70_21
noncomputable def n_70_17 : e_Y := u_ld f_okI f_l5 n_70_19
theorem t_70_17 : e_Sn 70 17 (e_un n_70_17) := u_ldIT f_l5_eq (s_iload (i := .iload 5) (len := 2) hq_70 (by decide +kernel) rfl (.inl ⟨rfl, rfl⟩) : e_Sn 70 17 (o_load e_okI 5 19)) t_70_19
noncomputable def n_70_14 : e_Y := u_if y_ne0 (u_old2 (o_ifeq 17 27) 17 n_70_17 (u_at 27)) n_70_17 (u_at 27)
theorem t_70_14 : e_Sn 70 14 (e_un n_70_14) := u_ifeqT rfl (s_ifne (off := (13)) hq_70 (by decide +kernel) rfl rfl : e_Sn 70 14 (o_ifeq 17 27)) t_70_17 u_atT
noncomputable def n_70_11 : e_Y := u_callS 65 2 21 2 n_65_0 n_70_14
theorem t_70_11 : e_Sn 70 11 (e_un n_70_11) := u_callST rfl (s_callS (index := 144) hq_70 ho_70 hy_65 hp_65 hc_65 hi_65 hd_65 (List.mem_of_getElem? (i := 1982) (by decide +kernel)) hs_65 (by decide +kernel) rfl : e_Sn 70 11 (o_callS 65 2 2 14)) t_65_0 t_70_14
noncomputable def n_70_9 : e_Y := u_ld f_okI f_l4 n_70_11
theorem t_70_9 : e_Sn 70 9 (e_un n_70_9) := u_ldIT f_l4_eq (s_iload (i := .iload 4) (len := 2) hq_70 (by decide +kernel) rfl (.inl ⟨rfl, rfl⟩) : e_Sn 70 9 (o_load e_okI 4 11)) t_70_11
noncomputable def n_70_8 : e_Y := u_ld f_okI f_l3 n_70_9
theorem t_70_8 : e_Sn 70 8 (e_un n_70_8) := u_ldIT f_l3_eq (s_iload (i := .iload_n 3) (len := 1) hq_70 (by decide +kernel) rfl (.inr ⟨3, rfl, rfl, rfl⟩) : e_Sn 70 8 (o_load e_okI 3 9)) t_70_9
noncomputable def n_70_5 : e_Y := u_if y_ne0 (u_old2 (o_ifeq 8 27) 8 n_70_8 (u_at 27)) n_70_8 (u_at 27)
theorem t_70_5 : e_Sn 70 5 (e_un n_70_5) := u_ifeqT rfl (s_ifne (off := (22)) hq_70 (by decide +kernel) rfl rfl : e_Sn 70 5 (o_ifeq 8 27)) t_70_8 u_atT
noncomputable def n_70_2 : e_Y := u_callS 65 2 21 2 n_65_0 n_70_5
theorem t_70_2 : e_Sn 70 2 (e_un n_70_2) := u_callST rfl (s_callS (index := 144) hq_70 ho_70 hy_65 hp_65 hc_65 hi_65 hd_65 (List.mem_of_getElem? (i := 1982) (by decide +kernel)) hs_65 (by decide +kernel) rfl : e_Sn 70 2 (o_callS 65 2 2 5)) t_65_0 t_70_5
noncomputable def n_70_1 : e_Y := u_ld f_okI f_l2 n_70_2
theorem t_70_1 : e_Sn 70 1 (e_un n_70_1) := u_ldIT f_l2_eq (s_iload (i := .iload_n 2) (len := 1) hq_70 (by decide +kernel) rfl (.inr ⟨2, rfl, rfl, rfl⟩) : e_Sn 70 1 (o_load e_okI 2 2)) t_70_2
noncomputable def n_70_0 : e_Y := u_ld f_okI f_l1 n_70_1
theorem t_70_0 : e_Sn 70 0 (e_un n_70_0) := u_ldIT f_l1_eq (s_iload (i := .iload_n 1) (len := 1) hq_70 (by decide +kernel) rfl (.inr ⟨1, rfl, rfl, rfl⟩) : e_Sn 70 0 (o_load e_okI 1 1)) t_70_1
noncomputable def e_tb_70 : e_X := (e_br 98 (e_br 79 (e_lf 0 (e_un n_70_0)) (e_lf 79 (e_un n_70_79))) (e_br 118 (e_lf 98 (e_un n_70_98)) (e_lf 118 (e_un n_70_118))))
theorem e_tk_70 : e_Tb 70 e_tb_70 := (e_brT (e_brT (e_lfT t_70_0) (e_lfT t_70_79)) (e_brT (e_lfT t_70_98) (e_lfT t_70_118)))
theorem hq_71 : (e_ml[71]?).map (·.2.1) = some prog_14_method_22_code := rfl
theorem ho_71 : (e_ml[71]?).map (·.1.cls) = some "PlateroomprinterModel" := rfl
theorem hr_71 : (e_ml[71]?).map (·.2.2.2) = some (some .int) := rfl
noncomputable def n_71_4 : e_Y := u_retI
theorem t_71_4 : e_Sn 71 4 (e_un n_71_4) := u_retIT (s_iret hq_71 hr_71 (by decide +kernel) : e_Sn 71 4 (o_ret e_okI))
noncomputable def n_71_1 : e_Y := u_getf 12 0 (u_old (o_getf (e_f1 12 0) 4) n_71_4) n_71_4
theorem t_71_1 : e_Sn 71 1 (e_un n_71_1) := u_getfT (s_getf (C := er_12) (T := et_12) (N := 5) (ref := "PlateroomprinterModel") (index := 124) (ci := 12) (k := 0) hq_71 ho_71 ⟨rfl, by decide, ei_12, (List.mem_of_getElem? (i := 1958) (by decide +kernel)), .inl rfl⟩ (by decide +kernel) rfl : e_Sn 71 1 (o_getf (e_f1 12 0) 4)) t_71_4
noncomputable def n_71_0 : e_Y := u_ld f_okA f_l0 n_71_1
theorem t_71_0 : e_Sn 71 0 (e_un n_71_0) := u_ldAT f_l0_eq (s_aload (i := .aload_n 0) (len := 1) hq_71 (by decide +kernel) rfl (.inr ⟨0, rfl, rfl, rfl⟩) : e_Sn 71 0 (o_load e_okR 0 1)) t_71_1
noncomputable def e_tb_71 : e_X := (e_lf 0 (e_un n_71_0))
theorem e_tk_71 : e_Tb 71 e_tb_71 := (e_lfT t_71_0)
theorem hq_117 : (e_ml[117]?).map (·.2.1) = some code := rfl
theorem ho_117 : (e_ml[117]?).map (·.1.cls) = some "PlateroomprinterLaw" := rfl
theorem hr_117 : (e_ml[117]?).map (·.2.2.2) = some (some .boolean) := rfl
noncomputable def n_117_2242 : e_Y := u_tab (o_ret e_okZ)
theorem t_117_2242 : e_Sn 117 2242 (e_un n_117_2242) := u_tabT (s_zret hq_117 hr_117 (by decide +kernel) : e_Sn 117 2242 (o_ret e_okZ))
noncomputable def n_117_2241 : e_Y := u_push (.inl 2147483649) n_117_2242
theorem t_117_2241 : e_Sn 117 2241 (e_un n_117_2241) := u_pushT (s_iconst (n := (1)) hq_117 (by decide +kernel) rfl ⟨by decide +kernel, by decide +kernel⟩ : e_Sn 117 2241 (o_push (.inl 2147483649) 2242)) t_117_2242
noncomputable def n_117_2238 : e_Y := (u_at 23)
theorem t_117_2238 : e_Sn 117 2238 (e_un n_117_2238) := u_gotoT (s_goto (off := (-2215)) hq_117 (by decide +kernel) rfl : e_Sn 117 2238 (o_goto 23)) u_atT
noncomputable def n_117_2235 : e_Y := u_inc f_l4 f_s4 7 n_117_2238
theorem t_117_2235 : e_Sn 117 2235 (e_un n_117_2235) := u_incT f_l4_eq (fun _ _ _ => f_s4_eq) (s_iinc (zz := (7)) hq_117 (by decide +kernel) rfl (by decide +kernel) ⟨by decide, by decide⟩ : e_Sn 117 2235 (o_iinc 4 7 2238)) t_117_2238
noncomputable def n_117_459 : e_Y := u_jmp y_ne (u_old2 (o_ceq 2235 462) 2235 n_117_2235 (u_at 462)) n_117_2235 (u_at 462)
theorem t_117_459 : e_Sn 117 459 (e_un n_117_459) := u_ceqT rfl (s_ceq (off := (1776)) hq_117 (by decide +kernel) rfl rfl : e_Sn 117 459 (o_ceq 2235 462)) t_117_2235 u_atT
noncomputable def n_117_456 : e_Y := u_callV 12 68 4 23 1 n_68_0 n_117_459
theorem t_117_456 : e_Sn 117 456 (e_un n_117_456) := u_callVT rfl (s_callVW (ci := 12) (C := er_12) (T := et_12) (N := 5) (index := 135) hq_117 ho_117 hy_68 hp_68 hc_68 hi_68 hd_68 (List.mem_of_getElem? (i := 2037) (by decide +kernel)) hs_68 (List.mem_of_getElem? (i := 2039) (by decide +kernel)) rfl (by decide +kernel) rfl : e_Sn 117 456 (o_callV (e_s1 12 68 4) 1 459)) t_68_0 t_117_459
noncomputable def n_117_455 : e_Y := u_ld f_okA f_l2 n_117_456
theorem t_117_455 : e_Sn 117 455 (e_un n_117_455) := u_ldAT f_l2_eq (s_aload (i := .aload_n 2) (len := 1) hq_117 (by decide +kernel) rfl (.inr ⟨2, rfl, rfl, rfl⟩) : e_Sn 117 455 (o_load e_okR 2 456)) t_117_456
noncomputable def n_117_452 : e_Y := u_callV 0 3 3 22 1 n_3_0 n_117_455
theorem t_117_452 : e_Sn 117 452 (e_un n_117_452) := u_callVT rfl (s_callV (ci := 0) (C := er_0) (T := et_0) (N := 17) (index := 132) hq_117 ho_117 hy_3 hp_3 hc_3 hi_3 hd_3 (List.mem_of_getElem? (i := 736) (by decide +kernel)) hs_3 (List.mem_of_getElem? (i := 738) (by decide +kernel)) rfl (by decide +kernel) rfl : e_Sn 117 452 (o_callV (e_s1 0 3 3) 1 455)) t_3_0 t_117_455
noncomputable def n_117_451 : e_Y := u_ld f_okA f_l1 n_117_452
theorem t_117_451 : e_Sn 117 451 (e_un n_117_451) := u_ldAT f_l1_eq (s_aload (i := .aload_n 1) (len := 1) hq_117 (by decide +kernel) rfl (.inr ⟨1, rfl, rfl, rfl⟩) : e_Sn 117 451 (o_load e_okR 1 452)) t_117_452
noncomputable def n_117_391 : e_Y := n_117_2235
theorem t_117_391 : e_Sn 117 391 (e_un n_117_391) := u_gotoT (s_goto (off := (1844)) hq_117 (by decide +kernel) rfl : e_Sn 117 391 (o_goto 2235)) t_117_2235
noncomputable def n_117_386 : e_Y := u_if y_ne0 (u_old2 (o_ifeq 391 389) 391 n_117_391 (u_at 389)) n_117_391 (u_at 389)
theorem t_117_386 : e_Sn 117 386 (e_un n_117_386) := u_ifeqT rfl (s_ifeq (off := (5)) hq_117 (by decide +kernel) rfl rfl : e_Sn 117 386 (o_ifeq 391 389)) t_117_391 u_atT
noncomputable def n_117_385 : e_Y := u_old (o_lcmp 386) n_117_386
theorem t_117_385 : e_Sn 117 385 (e_un n_117_385) := u_oldT (s_lcmp hq_117 (by decide +kernel) rfl : e_Sn 117 385 (o_lcmp 386)) t_117_386 e_cg_lcmp
noncomputable def n_117_384 : e_Y := u_old (o_i2l 385) n_117_385
theorem t_117_384 : e_Sn 117 384 (e_un n_117_384) := u_oldT (s_i2l hq_117 (by decide +kernel) rfl : e_Sn 117 384 (o_i2l 385)) t_117_385 e_congr_i2l
noncomputable def n_117_382 : e_Y := u_ld f_okI f_l6 n_117_384
theorem t_117_382 : e_Sn 117 382 (e_un n_117_382) := u_ldIT f_l6_eq (s_iload (i := .iload 6) (len := 2) hq_117 (by decide +kernel) rfl (.inl ⟨rfl, rfl⟩) : e_Sn 117 382 (o_load e_okI 6 384)) t_117_384
noncomputable def n_117_381 : e_Y := u_ald 2 (u_old (o_aldO 2 382) n_117_382) n_117_382
theorem t_117_381 : e_Sn 117 381 (e_un n_117_381) := u_aldOT (s_lald hq_117 (by decide +kernel) rfl : e_Sn 117 381 (o_aldO 2 382)) t_117_382
noncomputable def n_117_380 : e_Y := u_push (.inl 2147483648) n_117_381
theorem t_117_380 : e_Sn 117 380 (e_un n_117_380) := u_pushT (s_iconst (n := (0)) hq_117 (by decide +kernel) rfl ⟨by decide +kernel, by decide +kernel⟩ : e_Sn 117 380 (o_push (.inl 2147483648) 381)) t_117_381
noncomputable def n_117_379 : e_Y := u_ld f_okA f_l3 n_117_380
theorem t_117_379 : e_Sn 117 379 (e_un n_117_379) := u_ldAT f_l3_eq (s_aload (i := .aload_n 3) (len := 1) hq_117 (by decide +kernel) rfl (.inr ⟨3, rfl, rfl, rfl⟩) : e_Sn 117 379 (o_load e_okR 3 380)) t_117_380
noncomputable def n_117_376 : e_Y := u_if y_ne0 (u_old2 (o_ifeq 379 391) 379 n_117_379 n_117_391) n_117_379 n_117_391
theorem t_117_376 : e_Sn 117 376 (e_un n_117_376) := u_ifeqT rfl (s_ifne (off := (15)) hq_117 (by decide +kernel) rfl rfl : e_Sn 117 376 (o_ifeq 379 391)) t_117_379 t_117_391
noncomputable def n_117_374 : e_Y := u_ld f_okI f_l5 n_117_376
theorem t_117_374 : e_Sn 117 374 (e_un n_117_374) := u_ldIT f_l5_eq (s_iload (i := .iload 5) (len := 2) hq_117 (by decide +kernel) rfl (.inl ⟨rfl, rfl⟩) : e_Sn 117 374 (o_load e_okI 5 376)) t_117_376
noncomputable def n_117_369 : e_Y := u_jmp y_ne (u_old2 (o_ceq 374 372) 374 n_117_374 (u_at 372)) n_117_374 (u_at 372)
theorem t_117_369 : e_Sn 117 369 (e_un n_117_369) := u_ceqT rfl (s_ceq (off := (5)) hq_117 (by decide +kernel) rfl rfl : e_Sn 117 369 (o_ceq 374 372)) t_117_374 u_atT
noncomputable def n_117_367 : e_Y := u_ld f_okI f_l5 n_117_369
theorem t_117_367 : e_Sn 117 367 (e_un n_117_367) := u_ldIT f_l5_eq (s_iload (i := .iload 5) (len := 2) hq_117 (by decide +kernel) rfl (.inl ⟨rfl, rfl⟩) : e_Sn 117 367 (o_load e_okI 5 369)) t_117_369
noncomputable def n_117_364 : e_Y := u_callV 12 71 1 20 1 n_71_0 n_117_367
theorem t_117_364 : e_Sn 117 364 (e_un n_117_364) := u_callVT rfl (s_callV (ci := 12) (C := er_12) (T := et_12) (N := 5) (index := 117) hq_117 ho_117 hy_71 hp_71 hc_71 hi_71 hd_71 (List.mem_of_getElem? (i := 1974) (by decide +kernel)) hs_71 (List.mem_of_getElem? (i := 1976) (by decide +kernel)) rfl (by decide +kernel) rfl : e_Sn 117 364 (o_callV (e_s1 12 71 1) 1 367)) t_71_0 t_117_367
noncomputable def n_117_363 : e_Y := u_ld f_okA f_l2 n_117_364
theorem t_117_363 : e_Sn 117 363 (e_un n_117_363) := u_ldAT f_l2_eq (s_aload (i := .aload_n 2) (len := 1) hq_117 (by decide +kernel) rfl (.inr ⟨2, rfl, rfl, rfl⟩) : e_Sn 117 363 (o_load e_okR 2 364)) t_117_364
noncomputable def n_117_361 : e_Y := u_st f_okI f_s6 n_117_363
theorem t_117_361 : e_Sn 117 361 (e_un n_117_361) := u_stIT (fun _ _ _ => f_s6_eq) (s_istore (i := .istore 6) (len := 2) hq_117 (by decide +kernel) rfl (.inl ⟨rfl, rfl⟩) : e_Sn 117 361 (o_store e_okI 6 363)) t_117_363
noncomputable def n_117_358 : e_Y := u_callV 12 70 8 27 7 n_70_0 n_117_361
theorem t_117_358 : e_Sn 117 358 (e_un n_117_358) := u_callVT rfl (s_callV (ci := 12) (C := er_12) (T := et_12) (N := 5) (index := 123) hq_117 ho_117 hy_70 hp_70 hc_70 hi_70 hd_70 (List.mem_of_getElem? (i := 2005) (by decide +kernel)) hs_70 (List.mem_of_getElem? (i := 2007) (by decide +kernel)) rfl (by decide +kernel) rfl : e_Sn 117 358 (o_callV (e_s1 12 70 8) 7 361)) t_70_0 t_117_361
noncomputable def n_117_357 : e_Y := u_ald 0 (u_old (o_ald e_fcs 358) n_117_358) n_117_358
theorem t_117_357 : e_Sn 117 357 (e_un n_117_357) := u_aldT (s_iald hq_117 (by decide +kernel) rfl : e_Sn 117 357 (o_ald e_fcs 358)) t_117_358
noncomputable def n_117_356 : e_Y := u_bin a_iadd (u_old (o_iadd 357) n_117_357) n_117_357
theorem t_117_356 : e_Sn 117 356 (e_un n_117_356) := u_iaddT (s_iadd hq_117 (by decide +kernel) rfl : e_Sn 117 356 (o_iadd 357)) t_117_357
noncomputable def n_117_354 : e_Y := u_push (.inl 2147483654) n_117_356
theorem t_117_354 : e_Sn 117 354 (e_un n_117_354) := u_pushT (s_bipush (n := (6)) hq_117 (by decide +kernel) rfl ⟨by decide +kernel, by decide +kernel⟩ : e_Sn 117 354 (o_push (.inl 2147483654) 356)) t_117_356
noncomputable def n_117_352 : e_Y := u_ld f_okI f_l4 n_117_354
theorem t_117_352 : e_Sn 117 352 (e_un n_117_352) := u_ldIT f_l4_eq (s_iload (i := .iload 4) (len := 2) hq_117 (by decide +kernel) rfl (.inl ⟨rfl, rfl⟩) : e_Sn 117 352 (o_load e_okI 4 354)) t_117_354
noncomputable def n_117_351 : e_Y := u_ld f_okA f_l0 n_117_352
theorem t_117_351 : e_Sn 117 351 (e_un n_117_351) := u_ldAT f_l0_eq (s_aload (i := .aload_n 0) (len := 1) hq_117 (by decide +kernel) rfl (.inr ⟨0, rfl, rfl, rfl⟩) : e_Sn 117 351 (o_load e_okR 0 352)) t_117_352
noncomputable def n_117_350 : e_Y := u_ald 0 (u_old (o_ald e_fcs 351) n_117_351) n_117_351
theorem t_117_350 : e_Sn 117 350 (e_un n_117_350) := u_aldT (s_iald hq_117 (by decide +kernel) rfl : e_Sn 117 350 (o_ald e_fcs 351)) t_117_351
noncomputable def n_117_349 : e_Y := u_bin a_iadd (u_old (o_iadd 350) n_117_350) n_117_350
theorem t_117_349 : e_Sn 117 349 (e_un n_117_349) := u_iaddT (s_iadd hq_117 (by decide +kernel) rfl : e_Sn 117 349 (o_iadd 350)) t_117_350
noncomputable def n_117_348 : e_Y := u_push (.inl 2147483653) n_117_349
theorem t_117_348 : e_Sn 117 348 (e_un n_117_348) := u_pushT (s_iconst (n := (5)) hq_117 (by decide +kernel) rfl ⟨by decide +kernel, by decide +kernel⟩ : e_Sn 117 348 (o_push (.inl 2147483653) 349)) t_117_349
noncomputable def n_117_346 : e_Y := u_ld f_okI f_l4 n_117_348
theorem t_117_346 : e_Sn 117 346 (e_un n_117_346) := u_ldIT f_l4_eq (s_iload (i := .iload 4) (len := 2) hq_117 (by decide +kernel) rfl (.inl ⟨rfl, rfl⟩) : e_Sn 117 346 (o_load e_okI 4 348)) t_117_348
noncomputable def n_117_345 : e_Y := u_ld f_okA f_l0 n_117_346
theorem t_117_345 : e_Sn 117 345 (e_un n_117_345) := u_ldAT f_l0_eq (s_aload (i := .aload_n 0) (len := 1) hq_117 (by decide +kernel) rfl (.inr ⟨0, rfl, rfl, rfl⟩) : e_Sn 117 345 (o_load e_okR 0 346)) t_117_346
noncomputable def n_117_344 : e_Y := u_ald 0 (u_old (o_ald e_fcs 345) n_117_345) n_117_345
theorem t_117_344 : e_Sn 117 344 (e_un n_117_344) := u_aldT (s_iald hq_117 (by decide +kernel) rfl : e_Sn 117 344 (o_ald e_fcs 345)) t_117_345
noncomputable def n_117_343 : e_Y := u_bin a_iadd (u_old (o_iadd 344) n_117_344) n_117_344
theorem t_117_343 : e_Sn 117 343 (e_un n_117_343) := u_iaddT (s_iadd hq_117 (by decide +kernel) rfl : e_Sn 117 343 (o_iadd 344)) t_117_344
noncomputable def n_117_342 : e_Y := u_push (.inl 2147483652) n_117_343
theorem t_117_342 : e_Sn 117 342 (e_un n_117_342) := u_pushT (s_iconst (n := (4)) hq_117 (by decide +kernel) rfl ⟨by decide +kernel, by decide +kernel⟩ : e_Sn 117 342 (o_push (.inl 2147483652) 343)) t_117_343
noncomputable def n_117_340 : e_Y := u_ld f_okI f_l4 n_117_342
theorem t_117_340 : e_Sn 117 340 (e_un n_117_340) := u_ldIT f_l4_eq (s_iload (i := .iload 4) (len := 2) hq_117 (by decide +kernel) rfl (.inl ⟨rfl, rfl⟩) : e_Sn 117 340 (o_load e_okI 4 342)) t_117_342
noncomputable def n_117_339 : e_Y := u_ld f_okA f_l0 n_117_340
theorem t_117_339 : e_Sn 117 339 (e_un n_117_339) := u_ldAT f_l0_eq (s_aload (i := .aload_n 0) (len := 1) hq_117 (by decide +kernel) rfl (.inr ⟨0, rfl, rfl, rfl⟩) : e_Sn 117 339 (o_load e_okR 0 340)) t_117_340
noncomputable def n_117_338 : e_Y := u_ald 0 (u_old (o_ald e_fcs 339) n_117_339) n_117_339
theorem t_117_338 : e_Sn 117 338 (e_un n_117_338) := u_aldT (s_iald hq_117 (by decide +kernel) rfl : e_Sn 117 338 (o_ald e_fcs 339)) t_117_339
noncomputable def n_117_337 : e_Y := u_bin a_iadd (u_old (o_iadd 338) n_117_338) n_117_338
theorem t_117_337 : e_Sn 117 337 (e_un n_117_337) := u_iaddT (s_iadd hq_117 (by decide +kernel) rfl : e_Sn 117 337 (o_iadd 338)) t_117_338
noncomputable def n_117_336 : e_Y := u_push (.inl 2147483651) n_117_337
theorem t_117_336 : e_Sn 117 336 (e_un n_117_336) := u_pushT (s_iconst (n := (3)) hq_117 (by decide +kernel) rfl ⟨by decide +kernel, by decide +kernel⟩ : e_Sn 117 336 (o_push (.inl 2147483651) 337)) t_117_337
noncomputable def n_117_334 : e_Y := u_ld f_okI f_l4 n_117_336
theorem t_117_334 : e_Sn 117 334 (e_un n_117_334) := u_ldIT f_l4_eq (s_iload (i := .iload 4) (len := 2) hq_117 (by decide +kernel) rfl (.inl ⟨rfl, rfl⟩) : e_Sn 117 334 (o_load e_okI 4 336)) t_117_336
noncomputable def n_117_333 : e_Y := u_ld f_okA f_l0 n_117_334
theorem t_117_333 : e_Sn 117 333 (e_un n_117_333) := u_ldAT f_l0_eq (s_aload (i := .aload_n 0) (len := 1) hq_117 (by decide +kernel) rfl (.inr ⟨0, rfl, rfl, rfl⟩) : e_Sn 117 333 (o_load e_okR 0 334)) t_117_334
noncomputable def n_117_332 : e_Y := u_ald 0 (u_old (o_ald e_fcs 333) n_117_333) n_117_333
theorem t_117_332 : e_Sn 117 332 (e_un n_117_332) := u_aldT (s_iald hq_117 (by decide +kernel) rfl : e_Sn 117 332 (o_ald e_fcs 333)) t_117_333
noncomputable def n_117_331 : e_Y := u_bin a_iadd (u_old (o_iadd 332) n_117_332) n_117_332
theorem t_117_331 : e_Sn 117 331 (e_un n_117_331) := u_iaddT (s_iadd hq_117 (by decide +kernel) rfl : e_Sn 117 331 (o_iadd 332)) t_117_332
noncomputable def n_117_330 : e_Y := u_push (.inl 2147483650) n_117_331
theorem t_117_330 : e_Sn 117 330 (e_un n_117_330) := u_pushT (s_iconst (n := (2)) hq_117 (by decide +kernel) rfl ⟨by decide +kernel, by decide +kernel⟩ : e_Sn 117 330 (o_push (.inl 2147483650) 331)) t_117_331
noncomputable def n_117_328 : e_Y := u_ld f_okI f_l4 n_117_330
theorem t_117_328 : e_Sn 117 328 (e_un n_117_328) := u_ldIT f_l4_eq (s_iload (i := .iload 4) (len := 2) hq_117 (by decide +kernel) rfl (.inl ⟨rfl, rfl⟩) : e_Sn 117 328 (o_load e_okI 4 330)) t_117_330
noncomputable def n_117_327 : e_Y := u_ld f_okA f_l0 n_117_328
theorem t_117_327 : e_Sn 117 327 (e_un n_117_327) := u_ldAT f_l0_eq (s_aload (i := .aload_n 0) (len := 1) hq_117 (by decide +kernel) rfl (.inr ⟨0, rfl, rfl, rfl⟩) : e_Sn 117 327 (o_load e_okR 0 328)) t_117_328
noncomputable def n_117_326 : e_Y := u_ald 0 (u_old (o_ald e_fcs 327) n_117_327) n_117_327
theorem t_117_326 : e_Sn 117 326 (e_un n_117_326) := u_aldT (s_iald hq_117 (by decide +kernel) rfl : e_Sn 117 326 (o_ald e_fcs 327)) t_117_327
noncomputable def n_117_325 : e_Y := u_bin a_iadd (u_old (o_iadd 326) n_117_326) n_117_326
theorem t_117_325 : e_Sn 117 325 (e_un n_117_325) := u_iaddT (s_iadd hq_117 (by decide +kernel) rfl : e_Sn 117 325 (o_iadd 326)) t_117_326
noncomputable def n_117_324 : e_Y := u_push (.inl 2147483649) n_117_325
theorem t_117_324 : e_Sn 117 324 (e_un n_117_324) := u_pushT (s_iconst (n := (1)) hq_117 (by decide +kernel) rfl ⟨by decide +kernel, by decide +kernel⟩ : e_Sn 117 324 (o_push (.inl 2147483649) 325)) t_117_325
noncomputable def n_117_322 : e_Y := u_ld f_okI f_l4 n_117_324
theorem t_117_322 : e_Sn 117 322 (e_un n_117_322) := u_ldIT f_l4_eq (s_iload (i := .iload 4) (len := 2) hq_117 (by decide +kernel) rfl (.inl ⟨rfl, rfl⟩) : e_Sn 117 322 (o_load e_okI 4 324)) t_117_324
noncomputable def n_117_321 : e_Y := u_ld f_okA f_l0 n_117_322
theorem t_117_321 : e_Sn 117 321 (e_un n_117_321) := u_ldAT f_l0_eq (s_aload (i := .aload_n 0) (len := 1) hq_117 (by decide +kernel) rfl (.inr ⟨0, rfl, rfl, rfl⟩) : e_Sn 117 321 (o_load e_okR 0 322)) t_117_322
noncomputable def n_117_320 : e_Y := u_ld f_okA f_l2 n_117_321
theorem t_117_320 : e_Sn 117 320 (e_un n_117_320) := u_ldAT f_l2_eq (s_aload (i := .aload_n 2) (len := 1) hq_117 (by decide +kernel) rfl (.inr ⟨2, rfl, rfl, rfl⟩) : e_Sn 117 320 (o_load e_okR 2 321)) t_117_321
noncomputable def n_117_318 : e_Y := u_st f_okI f_s5 n_117_320
theorem t_117_318 : e_Sn 117 318 (e_un n_117_318) := u_stIT (fun _ _ _ => f_s5_eq) (s_istore (i := .istore 5) (len := 2) hq_117 (by decide +kernel) rfl (.inl ⟨rfl, rfl⟩) : e_Sn 117 318 (o_store e_okI 5 320)) t_117_320
noncomputable def n_117_315 : e_Y := u_callS 58 9 28 8 n_58_0 n_117_318
theorem t_117_315 : e_Sn 117 315 (e_un n_117_315) := u_callST rfl (s_callSW (index := 120) hq_117 ho_117 hy_58 hp_58 hc_58 hi_58 hd_58 (List.mem_of_getElem? (i := 1594) (by decide +kernel)) hs_58 (by decide +kernel) rfl : e_Sn 117 315 (o_callS 58 9 8 318)) t_58_0 t_117_318
noncomputable def n_117_314 : e_Y := u_ld f_okA f_l3 n_117_315
theorem t_117_314 : e_Sn 117 314 (e_un n_117_314) := u_ldAT f_l3_eq (s_aload (i := .aload_n 3) (len := 1) hq_117 (by decide +kernel) rfl (.inr ⟨3, rfl, rfl, rfl⟩) : e_Sn 117 314 (o_load e_okR 3 315)) t_117_315
noncomputable def n_117_313 : e_Y := u_ald 0 (u_old (o_ald e_fcs 314) n_117_314) n_117_314
theorem t_117_313 : e_Sn 117 313 (e_un n_117_313) := u_aldT (s_iald hq_117 (by decide +kernel) rfl : e_Sn 117 313 (o_ald e_fcs 314)) t_117_314
noncomputable def n_117_312 : e_Y := u_bin a_iadd (u_old (o_iadd 313) n_117_313) n_117_313
theorem t_117_312 : e_Sn 117 312 (e_un n_117_312) := u_iaddT (s_iadd hq_117 (by decide +kernel) rfl : e_Sn 117 312 (o_iadd 313)) t_117_313
noncomputable def n_117_310 : e_Y := u_push (.inl 2147483654) n_117_312
theorem t_117_310 : e_Sn 117 310 (e_un n_117_310) := u_pushT (s_bipush (n := (6)) hq_117 (by decide +kernel) rfl ⟨by decide +kernel, by decide +kernel⟩ : e_Sn 117 310 (o_push (.inl 2147483654) 312)) t_117_312
noncomputable def n_117_308 : e_Y := u_ld f_okI f_l4 n_117_310
theorem t_117_308 : e_Sn 117 308 (e_un n_117_308) := u_ldIT f_l4_eq (s_iload (i := .iload 4) (len := 2) hq_117 (by decide +kernel) rfl (.inl ⟨rfl, rfl⟩) : e_Sn 117 308 (o_load e_okI 4 310)) t_117_310
noncomputable def n_117_307 : e_Y := u_ld f_okA f_l0 n_117_308
theorem t_117_307 : e_Sn 117 307 (e_un n_117_307) := u_ldAT f_l0_eq (s_aload (i := .aload_n 0) (len := 1) hq_117 (by decide +kernel) rfl (.inr ⟨0, rfl, rfl, rfl⟩) : e_Sn 117 307 (o_load e_okR 0 308)) t_117_308
noncomputable def n_117_306 : e_Y := u_ald 0 (u_old (o_ald e_fcs 307) n_117_307) n_117_307
theorem t_117_306 : e_Sn 117 306 (e_un n_117_306) := u_aldT (s_iald hq_117 (by decide +kernel) rfl : e_Sn 117 306 (o_ald e_fcs 307)) t_117_307
noncomputable def n_117_305 : e_Y := u_bin a_iadd (u_old (o_iadd 306) n_117_306) n_117_306
theorem t_117_305 : e_Sn 117 305 (e_un n_117_305) := u_iaddT (s_iadd hq_117 (by decide +kernel) rfl : e_Sn 117 305 (o_iadd 306)) t_117_306
noncomputable def n_117_304 : e_Y := u_push (.inl 2147483653) n_117_305
theorem t_117_304 : e_Sn 117 304 (e_un n_117_304) := u_pushT (s_iconst (n := (5)) hq_117 (by decide +kernel) rfl ⟨by decide +kernel, by decide +kernel⟩ : e_Sn 117 304 (o_push (.inl 2147483653) 305)) t_117_305
noncomputable def n_117_302 : e_Y := u_ld f_okI f_l4 n_117_304
theorem t_117_302 : e_Sn 117 302 (e_un n_117_302) := u_ldIT f_l4_eq (s_iload (i := .iload 4) (len := 2) hq_117 (by decide +kernel) rfl (.inl ⟨rfl, rfl⟩) : e_Sn 117 302 (o_load e_okI 4 304)) t_117_304
noncomputable def n_117_301 : e_Y := u_ld f_okA f_l0 n_117_302
theorem t_117_301 : e_Sn 117 301 (e_un n_117_301) := u_ldAT f_l0_eq (s_aload (i := .aload_n 0) (len := 1) hq_117 (by decide +kernel) rfl (.inr ⟨0, rfl, rfl, rfl⟩) : e_Sn 117 301 (o_load e_okR 0 302)) t_117_302
noncomputable def n_117_300 : e_Y := u_ald 0 (u_old (o_ald e_fcs 301) n_117_301) n_117_301
theorem t_117_300 : e_Sn 117 300 (e_un n_117_300) := u_aldT (s_iald hq_117 (by decide +kernel) rfl : e_Sn 117 300 (o_ald e_fcs 301)) t_117_301
noncomputable def n_117_299 : e_Y := u_bin a_iadd (u_old (o_iadd 300) n_117_300) n_117_300
theorem t_117_299 : e_Sn 117 299 (e_un n_117_299) := u_iaddT (s_iadd hq_117 (by decide +kernel) rfl : e_Sn 117 299 (o_iadd 300)) t_117_300
noncomputable def n_117_298 : e_Y := u_push (.inl 2147483652) n_117_299
theorem t_117_298 : e_Sn 117 298 (e_un n_117_298) := u_pushT (s_iconst (n := (4)) hq_117 (by decide +kernel) rfl ⟨by decide +kernel, by decide +kernel⟩ : e_Sn 117 298 (o_push (.inl 2147483652) 299)) t_117_299
noncomputable def n_117_296 : e_Y := u_ld f_okI f_l4 n_117_298
theorem t_117_296 : e_Sn 117 296 (e_un n_117_296) := u_ldIT f_l4_eq (s_iload (i := .iload 4) (len := 2) hq_117 (by decide +kernel) rfl (.inl ⟨rfl, rfl⟩) : e_Sn 117 296 (o_load e_okI 4 298)) t_117_298
noncomputable def n_117_295 : e_Y := u_ld f_okA f_l0 n_117_296
theorem t_117_295 : e_Sn 117 295 (e_un n_117_295) := u_ldAT f_l0_eq (s_aload (i := .aload_n 0) (len := 1) hq_117 (by decide +kernel) rfl (.inr ⟨0, rfl, rfl, rfl⟩) : e_Sn 117 295 (o_load e_okR 0 296)) t_117_296
noncomputable def n_117_294 : e_Y := u_ald 0 (u_old (o_ald e_fcs 295) n_117_295) n_117_295
theorem t_117_294 : e_Sn 117 294 (e_un n_117_294) := u_aldT (s_iald hq_117 (by decide +kernel) rfl : e_Sn 117 294 (o_ald e_fcs 295)) t_117_295
noncomputable def n_117_293 : e_Y := u_bin a_iadd (u_old (o_iadd 294) n_117_294) n_117_294
theorem t_117_293 : e_Sn 117 293 (e_un n_117_293) := u_iaddT (s_iadd hq_117 (by decide +kernel) rfl : e_Sn 117 293 (o_iadd 294)) t_117_294
noncomputable def n_117_292 : e_Y := u_push (.inl 2147483651) n_117_293
theorem t_117_292 : e_Sn 117 292 (e_un n_117_292) := u_pushT (s_iconst (n := (3)) hq_117 (by decide +kernel) rfl ⟨by decide +kernel, by decide +kernel⟩ : e_Sn 117 292 (o_push (.inl 2147483651) 293)) t_117_293
noncomputable def n_117_290 : e_Y := u_ld f_okI f_l4 n_117_292
theorem t_117_290 : e_Sn 117 290 (e_un n_117_290) := u_ldIT f_l4_eq (s_iload (i := .iload 4) (len := 2) hq_117 (by decide +kernel) rfl (.inl ⟨rfl, rfl⟩) : e_Sn 117 290 (o_load e_okI 4 292)) t_117_292
noncomputable def n_117_289 : e_Y := u_ld f_okA f_l0 n_117_290
theorem t_117_289 : e_Sn 117 289 (e_un n_117_289) := u_ldAT f_l0_eq (s_aload (i := .aload_n 0) (len := 1) hq_117 (by decide +kernel) rfl (.inr ⟨0, rfl, rfl, rfl⟩) : e_Sn 117 289 (o_load e_okR 0 290)) t_117_290
noncomputable def n_117_288 : e_Y := u_ald 0 (u_old (o_ald e_fcs 289) n_117_289) n_117_289
theorem t_117_288 : e_Sn 117 288 (e_un n_117_288) := u_aldT (s_iald hq_117 (by decide +kernel) rfl : e_Sn 117 288 (o_ald e_fcs 289)) t_117_289
noncomputable def n_117_287 : e_Y := u_bin a_iadd (u_old (o_iadd 288) n_117_288) n_117_288
theorem t_117_287 : e_Sn 117 287 (e_un n_117_287) := u_iaddT (s_iadd hq_117 (by decide +kernel) rfl : e_Sn 117 287 (o_iadd 288)) t_117_288
noncomputable def n_117_286 : e_Y := u_push (.inl 2147483650) n_117_287
theorem t_117_286 : e_Sn 117 286 (e_un n_117_286) := u_pushT (s_iconst (n := (2)) hq_117 (by decide +kernel) rfl ⟨by decide +kernel, by decide +kernel⟩ : e_Sn 117 286 (o_push (.inl 2147483650) 287)) t_117_287
noncomputable def n_117_284 : e_Y := u_ld f_okI f_l4 n_117_286
theorem t_117_284 : e_Sn 117 284 (e_un n_117_284) := u_ldIT f_l4_eq (s_iload (i := .iload 4) (len := 2) hq_117 (by decide +kernel) rfl (.inl ⟨rfl, rfl⟩) : e_Sn 117 284 (o_load e_okI 4 286)) t_117_286
noncomputable def n_117_283 : e_Y := u_ld f_okA f_l0 n_117_284
theorem t_117_283 : e_Sn 117 283 (e_un n_117_283) := u_ldAT f_l0_eq (s_aload (i := .aload_n 0) (len := 1) hq_117 (by decide +kernel) rfl (.inr ⟨0, rfl, rfl, rfl⟩) : e_Sn 117 283 (o_load e_okR 0 284)) t_117_284
noncomputable def n_117_282 : e_Y := u_ald 0 (u_old (o_ald e_fcs 283) n_117_283) n_117_283
theorem t_117_282 : e_Sn 117 282 (e_un n_117_282) := u_aldT (s_iald hq_117 (by decide +kernel) rfl : e_Sn 117 282 (o_ald e_fcs 283)) t_117_283
noncomputable def n_117_281 : e_Y := u_bin a_iadd (u_old (o_iadd 282) n_117_282) n_117_282
theorem t_117_281 : e_Sn 117 281 (e_un n_117_281) := u_iaddT (s_iadd hq_117 (by decide +kernel) rfl : e_Sn 117 281 (o_iadd 282)) t_117_282
noncomputable def n_117_280 : e_Y := u_push (.inl 2147483649) n_117_281
theorem t_117_280 : e_Sn 117 280 (e_un n_117_280) := u_pushT (s_iconst (n := (1)) hq_117 (by decide +kernel) rfl ⟨by decide +kernel, by decide +kernel⟩ : e_Sn 117 280 (o_push (.inl 2147483649) 281)) t_117_281
noncomputable def n_117_278 : e_Y := u_ld f_okI f_l4 n_117_280
theorem t_117_278 : e_Sn 117 278 (e_un n_117_278) := u_ldIT f_l4_eq (s_iload (i := .iload 4) (len := 2) hq_117 (by decide +kernel) rfl (.inl ⟨rfl, rfl⟩) : e_Sn 117 278 (o_load e_okI 4 280)) t_117_280
noncomputable def n_117_277 : e_Y := u_ld f_okA f_l0 n_117_278
theorem t_117_277 : e_Sn 117 277 (e_un n_117_277) := u_ldAT f_l0_eq (s_aload (i := .aload_n 0) (len := 1) hq_117 (by decide +kernel) rfl (.inr ⟨0, rfl, rfl, rfl⟩) : e_Sn 117 277 (o_load e_okR 0 278)) t_117_278
noncomputable def n_117_276 : e_Y := u_ld f_okA f_l1 n_117_277
theorem t_117_276 : e_Sn 117 276 (e_un n_117_276) := u_ldAT f_l1_eq (s_aload (i := .aload_n 1) (len := 1) hq_117 (by decide +kernel) rfl (.inr ⟨1, rfl, rfl, rfl⟩) : e_Sn 117 276 (o_load e_okR 1 277)) t_117_277
noncomputable def n_117_40 : e_Y := u_tab (o_switch 2147483648 [208, 276, 394, 438, 451, 464, 477, 490, 503, 571, 627, 640, 708, 776, 832, 888, 944, 1012, 1080, 1160, 1228, 1315, 1371, 1451, 1464, 1556, 1569, 1637, 1705, 1773, 1841, 1897, 1960, 2016, 2084, 2140, 2208, 2221] 2235)
theorem t_117_40 : e_Sn 117 40 (e_un n_117_40) := u_tabT (s_switch (dflt := (2195)) (low := (0)) (hi := (37)) (offs := #[(168), (236), (354), (398), (411), (424), (437), (450), (463), (531), (587), (600), (668), (736), (792), (848), (904), (972), (1040), (1120), (1188), (1275), (1331), (1411), (1424), (1516), (1529), (1597), (1665), (1733), (1801), (1857), (1920), (1976), (2044), (2100), (2168), (2181)]) (len := 168) hq_117 (by decide +kernel) rfl rfl rfl rfl : e_Sn 117 40 (o_switch 2147483648 [208, 276, 394, 438, 451, 464, 477, 490, 503, 571, 627, 640, 708, 776, 832, 888, 944, 1012, 1080, 1160, 1228, 1315, 1371, 1451, 1464, 1556, 1569, 1637, 1705, 1773, 1841, 1897, 1960, 2016, 2084, 2140, 2208, 2221] 2235))
noncomputable def n_117_39 : e_Y := u_bin a_iand (u_old (o_bin Nat.land 40) n_117_40) n_117_40
theorem t_117_39 : e_Sn 117 39 (e_un n_117_39) := u_iandT (s_iand hq_117 (by decide +kernel) rfl : e_Sn 117 39 (o_bin Nat.land 40)) t_117_40
noncomputable def n_117_37 : e_Y := u_push (.inl 2147483711) n_117_39
theorem t_117_37 : e_Sn 117 37 (e_un n_117_37) := u_pushT (s_bipush (n := (63)) hq_117 (by decide +kernel) rfl ⟨by decide +kernel, by decide +kernel⟩ : e_Sn 117 37 (o_push (.inl 2147483711) 39)) t_117_39
noncomputable def n_117_36 : e_Y := u_ald 0 (u_old (o_ald e_fcs 37) n_117_37) n_117_37
theorem t_117_36 : e_Sn 117 36 (e_un n_117_36) := u_aldT (s_iald hq_117 (by decide +kernel) rfl : e_Sn 117 36 (o_ald e_fcs 37)) t_117_37
noncomputable def n_117_34 : e_Y := u_ld f_okI f_l4 n_117_36
theorem t_117_34 : e_Sn 117 34 (e_un n_117_34) := u_ldIT f_l4_eq (s_iload (i := .iload 4) (len := 2) hq_117 (by decide +kernel) rfl (.inl ⟨rfl, rfl⟩) : e_Sn 117 34 (o_load e_okI 4 36)) t_117_36
noncomputable def n_117_33 : e_Y := u_ld f_okA f_l0 n_117_34
theorem t_117_33 : e_Sn 117 33 (e_un n_117_33) := u_ldAT f_l0_eq (s_aload (i := .aload_n 0) (len := 1) hq_117 (by decide +kernel) rfl (.inr ⟨0, rfl, rfl, rfl⟩) : e_Sn 117 33 (o_load e_okR 0 34)) t_117_34
noncomputable def n_117_30 : e_Y := u_jmp y_le (u_old2 (o_cgt 2241 33) 2241 n_117_2241 n_117_33) n_117_2241 n_117_33
theorem t_117_30 : e_Sn 117 30 (e_un n_117_30) := u_cgtT rfl (s_cgt (off := (2211)) hq_117 (by decide +kernel) rfl rfl : e_Sn 117 30 (o_cgt 2241 33)) t_117_2241 t_117_33
noncomputable def n_117_29 : e_Y := u_bin a_isub (u_old (o_isub 30) n_117_30) n_117_30
theorem t_117_29 : e_Sn 117 29 (e_un n_117_29) := u_isubT (s_isub hq_117 (by decide +kernel) rfl : e_Sn 117 29 (o_isub 30)) t_117_30
noncomputable def n_117_27 : e_Y := u_push (.inl 2147483655) n_117_29
theorem t_117_27 : e_Sn 117 27 (e_un n_117_27) := u_pushT (s_bipush (n := (7)) hq_117 (by decide +kernel) rfl ⟨by decide +kernel, by decide +kernel⟩ : e_Sn 117 27 (o_push (.inl 2147483655) 29)) t_117_29
noncomputable def n_117_26 : e_Y := u_old (o_alen e_fcs 27) n_117_27
theorem t_117_26 : e_Sn 117 26 (e_un n_117_26) := u_oldT (s_alen hq_117 (by decide +kernel) rfl : e_Sn 117 26 (o_alen e_fcs 27)) t_117_27 (e_cg_alen e_fcs)
noncomputable def n_117_25 : e_Y := u_ld f_okA f_l0 n_117_26
theorem t_117_25 : e_Sn 117 25 (e_un n_117_25) := u_ldAT f_l0_eq (s_aload (i := .aload_n 0) (len := 1) hq_117 (by decide +kernel) rfl (.inr ⟨0, rfl, rfl, rfl⟩) : e_Sn 117 25 (o_load e_okR 0 26)) t_117_26
noncomputable def n_117_23 : e_Y := u_ld f_okI f_l4 n_117_25
theorem t_117_23 : e_Sn 117 23 (e_un n_117_23) := u_ldIT f_l4_eq (s_iload (i := .iload 4) (len := 2) hq_117 (by decide +kernel) rfl (.inl ⟨rfl, rfl⟩) : e_Sn 117 23 (o_load e_okI 4 25)) t_117_25
noncomputable def n_117_21 : e_Y := u_st f_okI f_s4 n_117_23
theorem t_117_21 : e_Sn 117 21 (e_un n_117_21) := u_stIT (fun _ _ _ => f_s4_eq) (s_istore (i := .istore 4) (len := 2) hq_117 (by decide +kernel) rfl (.inl ⟨rfl, rfl⟩) : e_Sn 117 21 (o_store e_okI 4 23)) t_117_23
noncomputable def n_117_20 : e_Y := u_push (.inl 2147483648) n_117_21
theorem t_117_20 : e_Sn 117 20 (e_un n_117_20) := u_pushT (s_iconst (n := (0)) hq_117 (by decide +kernel) rfl ⟨by decide +kernel, by decide +kernel⟩ : e_Sn 117 20 (o_push (.inl 2147483648) 21)) t_117_21
noncomputable def n_117_19 : e_Y := u_st f_okA f_s3 n_117_20
theorem t_117_19 : e_Sn 117 19 (e_un n_117_19) := u_stAT (fun _ _ _ => f_s3_eq) (s_astore (i := .astore_n 3) (len := 1) hq_117 (by decide +kernel) rfl (.inr ⟨3, rfl, rfl, rfl⟩) : e_Sn 117 19 (o_store e_okR 3 20)) t_117_20
noncomputable def n_117_17 : e_Y := u_tab (o_newa 2 (e_L 9223372036854775808) 19)
theorem t_117_17 : e_Sn 117 17 (e_un n_117_17) := u_tabT (s_newJ (List.mem_of_getElem? (i := 279) (by decide +kernel)) hq_117 (by decide +kernel) rfl : e_Sn 117 17 (o_newa 2 (e_L 9223372036854775808) 19))
noncomputable def n_117_16 : e_Y := u_push (.inl 2147483649) n_117_17
theorem t_117_16 : e_Sn 117 16 (e_un n_117_16) := u_pushT (s_iconst (n := (1)) hq_117 (by decide +kernel) rfl ⟨by decide +kernel, by decide +kernel⟩ : e_Sn 117 16 (o_push (.inl 2147483649) 17)) t_117_17
noncomputable def n_117_15 : e_Y := u_st f_okA f_s2 n_117_16
theorem t_117_15 : e_Sn 117 15 (e_un n_117_15) := u_stAT (fun _ _ _ => f_s2_eq) (s_astore (i := .astore_n 2) (len := 1) hq_117 (by decide +kernel) rfl (.inr ⟨2, rfl, rfl, rfl⟩) : e_Sn 117 15 (o_store e_okR 2 16)) t_117_16
noncomputable def n_117_12 : e_Y := u_tab (o_callI 59 1 1 15)
theorem t_117_12 : e_Sn 117 12 (e_un n_117_12) := u_tabT (s_callI (index := 110) hq_117 ho_117 hy_59 hp_59 hc_59 hi_59 hd_59 (List.mem_of_getElem? (i := 1740) (by decide +kernel)) rfl rfl hs_59 (by decide +kernel) rfl : e_Sn 117 12 (o_callI 59 1 1 15))
noncomputable def n_117_11 : e_Y := u_old (o_dup 12) n_117_12
theorem t_117_11 : e_Sn 117 11 (e_un n_117_11) := u_oldT (s_dup hq_117 (by decide +kernel) rfl : e_Sn 117 11 (o_dup 12)) t_117_12 e_cg_dup
noncomputable def n_117_8 : e_Y := u_tab (o_new 12 5 ef_12 11)
theorem t_117_8 : e_Sn 117 8 (e_un n_117_8) := u_tabT (s_new (index := 108) (ci := 12) (N := 5) (C := er_12) (T := et_12) (ty0 := ey_12) (fv := eg_12) hq_117 ho_117 rfl ei_12 eo_12 (List.mem_of_getElem? (i := 1738) (by decide +kernel)) (List.mem_of_getElem? (i := 1739) (by decide +kernel)) (List.mem_of_getElem? (i := 151) (by decide +kernel)) eh_12 rfl (e_newrel ek_12) (by decide +kernel) rfl : e_Sn 117 8 (o_new 12 5 ef_12 11))
noncomputable def n_117_7 : e_Y := u_st f_okA f_s1 n_117_8
theorem t_117_7 : e_Sn 117 7 (e_un n_117_7) := u_stAT (fun _ _ _ => f_s1_eq) (s_astore (i := .astore_n 1) (len := 1) hq_117 (by decide +kernel) rfl (.inr ⟨1, rfl, rfl, rfl⟩) : e_Sn 117 7 (o_store e_okR 1 8)) t_117_8
noncomputable def n_117_4 : e_Y := u_tab (o_callI 0 1 1 7)
theorem t_117_4 : e_Sn 117 4 (e_un n_117_4) := u_tabT (s_callI (index := 107) hq_117 ho_117 hy_0 hp_0 hc_0 hi_0 hd_0 (List.mem_of_getElem? (i := 186) (by decide +kernel)) rfl rfl hs_0 (by decide +kernel) rfl : e_Sn 117 4 (o_callI 0 1 1 7))
noncomputable def n_117_3 : e_Y := u_old (o_dup 4) n_117_4
theorem t_117_3 : e_Sn 117 3 (e_un n_117_3) := u_oldT (s_dup hq_117 (by decide +kernel) rfl : e_Sn 117 3 (o_dup 4)) t_117_4 e_cg_dup
noncomputable def n_117_0 : e_Y := u_tab (o_new 0 17 ef_0 3)
theorem t_117_0 : e_Sn 117 0 (e_un n_117_0) := u_tabT (s_new (index := 8) (ci := 0) (N := 17) (C := er_0) (T := et_0) (ty0 := ey_0) (fv := eg_0) hq_117 ho_117 rfl ei_0 eo_0 (List.mem_of_getElem? (i := 184) (by decide +kernel)) (List.mem_of_getElem? (i := 185) (by decide +kernel)) (List.mem_of_getElem? (i := 138) (by decide +kernel)) eh_0 rfl (e_newrel ek_0) (by decide +kernel) rfl : e_Sn 117 0 (o_new 0 17 ef_0 3))
noncomputable def e_tb_117 : e_X := (e_br 19 (e_br 7 (e_br 3 (e_lf 0 (e_un n_117_0)) (e_lf 3 (e_un n_117_3))) (e_br 11 (e_lf 7 (e_un n_117_7)) (e_br 15 (e_lf 11 (e_un n_117_11)) (e_lf 15 (e_un n_117_15))))) (e_br 276 (e_br 23 (e_lf 19 (e_un n_117_19)) (e_lf 23 (e_un n_117_23))) (e_br 451 (e_lf 276 (e_un n_117_276)) (e_br 2235 (e_lf 451 (e_un n_117_451)) (e_lf 2235 (e_un n_117_2235))))))
theorem e_tk_117 : e_Tb 117 e_tb_117 := (e_brT (e_brT (e_brT (e_lfT t_117_0) (e_lfT t_117_3)) (e_brT (e_lfT t_117_7) (e_brT (e_lfT t_117_11) (e_lfT t_117_15)))) (e_brT (e_brT (e_lfT t_117_19) (e_lfT t_117_23)) (e_brT (e_lfT t_117_276) (e_brT (e_lfT t_117_451) (e_lfT t_117_2235)))))
end SN
