/-! TABLES, by program -/
section SN
theorem hq_88 : (e_ml[88]?).map (·.2.1) = some prog_20_method_12_code := Eq.trans (congrArg (Option.map (fun e => e.2.1)) hy_88) rfl
theorem ho_88 : (e_ml[88]?).map (·.1.cls) = some "PlateroomprinterModel$Run" := Eq.trans (congrArg (Option.map (fun e => e.1.cls)) hy_88) rfl
theorem hr_88 : (e_ml[88]?).map (·.2.2.2) = some (some (.array .long)) := Eq.trans (congrArg (Option.map (fun e => e.2.2.2)) hy_88) rfl
noncomputable def n_88_31 : e_Y := u_retA
theorem t_88_31 : e_Sn 88 31 (e_un n_88_31) := u_retAT (s_aret (.inr ⟨_, rfl⟩) hq_88 hr_88 (by decide +kernel) : e_Sn 88 31 (o_ret e_okR))
noncomputable def n_88_30 : e_Y := u_ld f_okA f_l2 n_88_31
theorem t_88_30 : e_Sn 88 30 (e_un n_88_30) := u_ldAT f_l2_eq (s_aload (i := .aload_n 2) (len := 1) hq_88 (by decide +kernel) rfl (.inr ⟨2, rfl, rfl, rfl⟩) : e_Sn 88 30 (o_load e_okR 2 31)) t_88_31
noncomputable def n_88_27 : e_Y := (u_at 8)
theorem t_88_27 : e_Sn 88 27 (e_un n_88_27) := u_gotoT (s_goto (off := (-19)) hq_88 (by decide +kernel) rfl : e_Sn 88 27 (o_goto 8)) u_atT
noncomputable def n_88_24 : e_Y := u_inc f_l3 f_s3 4294967295 n_88_27
theorem t_88_24 : e_Sn 88 24 (e_un n_88_24) := u_incT f_l3_eq (fun _ _ _ => f_s3_eq) (s_iinc (zz := (-1)) hq_88 (by decide +kernel) rfl (by decide +kernel) ⟨by decide, by decide⟩ : e_Sn 88 24 (o_iinc 3 4294967295 27)) t_88_27
noncomputable def n_88_23 : e_Y := u_old (o_ast 2 e_okL 24) n_88_24
theorem t_88_23 : e_Sn 88 23 (e_un n_88_23) := u_oldT (s_last hq_88 (by decide +kernel) rfl : e_Sn 88 23 (o_ast 2 e_okL 24)) t_88_24 (e_cg_ast 2 e_okL)
noncomputable def n_88_22 : e_Y := u_old (o_i2l 23) n_88_23
theorem t_88_22 : e_Sn 88 22 (e_un n_88_22) := u_oldT (s_i2l hq_88 (by decide +kernel) rfl : e_Sn 88 22 (o_i2l 23)) t_88_23 e_congr_i2l
noncomputable def n_88_19 : e_Y := u_getf 13 1 (u_old (o_getf (e_f1 13 1) 22) n_88_22) n_88_22
theorem t_88_19 : e_Sn 88 19 (e_un n_88_19) := u_getfT (s_getf (C := er_13) (T := et_13) (N := 3) (ref := "PlateroomprinterModel$Item") (index := 153) (ci := 13) (k := 1) hq_88 ho_88 ⟨rfl, by decide, ei_13, (r_k9 (List.mem_of_getElem? (i := 178) (by decide +kernel))), .inl rfl⟩ (by decide +kernel) rfl : e_Sn 88 19 (o_getf (e_f1 13 1) 22)) t_88_22
noncomputable def n_88_16 : e_Y := u_callV 16 96 3 22 2 n_96_0 n_88_19
theorem t_88_16 : e_Sn 88 16 (e_un n_88_16) := u_callVT rfl (s_callV (ci := 16) (C := er_16) (T := et_16) (N := 5) (index := 149) hq_88 ho_88 hy_96 hp_96 hc_96 hi_96 hd_96 r_m_9_210 hs_96 (List.mem_of_getElem? (i := 25) (by decide +kernel)) rfl (by decide +kernel) rfl : e_Sn 88 16 (o_callV (e_s1 16 96 3) 2 19)) t_96_0 t_88_19
noncomputable def n_88_15 : e_Y := u_push (.inl 2147483648) n_88_16
theorem t_88_15 : e_Sn 88 15 (e_un n_88_15) := u_pushT (s_iconst (n := (0)) hq_88 (by decide +kernel) rfl ⟨by decide +kernel, by decide +kernel⟩ : e_Sn 88 15 (o_push (.inl 2147483648) 16)) t_88_16
noncomputable def n_88_14 : e_Y := u_ld f_okA f_l0 n_88_15
theorem t_88_14 : e_Sn 88 14 (e_un n_88_14) := u_ldAT f_l0_eq (s_aload (i := .aload_n 0) (len := 1) hq_88 (by decide +kernel) rfl (.inr ⟨0, rfl, rfl, rfl⟩) : e_Sn 88 14 (o_load e_okR 0 15)) t_88_15
noncomputable def n_88_13 : e_Y := u_ld f_okI f_l3 n_88_14
theorem t_88_13 : e_Sn 88 13 (e_un n_88_13) := u_ldIT f_l3_eq (s_iload (i := .iload_n 3) (len := 1) hq_88 (by decide +kernel) rfl (.inr ⟨3, rfl, rfl, rfl⟩) : e_Sn 88 13 (o_load e_okI 3 14)) t_88_14
noncomputable def n_88_12 : e_Y := u_ld f_okA f_l2 n_88_13
theorem t_88_12 : e_Sn 88 12 (e_un n_88_12) := u_ldAT f_l2_eq (s_aload (i := .aload_n 2) (len := 1) hq_88 (by decide +kernel) rfl (.inr ⟨2, rfl, rfl, rfl⟩) : e_Sn 88 12 (o_load e_okR 2 13)) t_88_13
noncomputable def n_88_9 : e_Y := u_if y_ge0 (u_old2 (o_iflt 30 12) 30 n_88_30 n_88_12) n_88_30 n_88_12
theorem t_88_9 : e_Sn 88 9 (e_un n_88_9) := u_ifltT rfl (s_iflt (off := (21)) hq_88 (by decide +kernel) rfl rfl : e_Sn 88 9 (o_iflt 30 12)) t_88_30 t_88_12
noncomputable def n_88_8 : e_Y := u_ld f_okI f_l3 n_88_9
theorem t_88_8 : e_Sn 88 8 (e_un n_88_8) := u_ldIT f_l3_eq (s_iload (i := .iload_n 3) (len := 1) hq_88 (by decide +kernel) rfl (.inr ⟨3, rfl, rfl, rfl⟩) : e_Sn 88 8 (o_load e_okI 3 9)) t_88_9
noncomputable def n_88_7 : e_Y := u_st f_okI f_s3 n_88_8
theorem t_88_7 : e_Sn 88 7 (e_un n_88_7) := u_stIT (fun _ _ _ => f_s3_eq) (s_istore (i := .istore_n 3) (len := 1) hq_88 (by decide +kernel) rfl (.inr ⟨3, rfl, rfl, rfl⟩) : e_Sn 88 7 (o_store e_okI 3 8)) t_88_8
noncomputable def n_88_6 : e_Y := u_bin a_isub (u_old (o_isub 7) n_88_7) n_88_7
theorem t_88_6 : e_Sn 88 6 (e_un n_88_6) := u_isubT (s_isub hq_88 (by decide +kernel) rfl : e_Sn 88 6 (o_isub 7)) t_88_7
noncomputable def n_88_5 : e_Y := u_push (.inl 2147483649) n_88_6
theorem t_88_5 : e_Sn 88 5 (e_un n_88_5) := u_pushT (s_iconst (n := (1)) hq_88 (by decide +kernel) rfl ⟨by decide +kernel, by decide +kernel⟩ : e_Sn 88 5 (o_push (.inl 2147483649) 6)) t_88_6
noncomputable def n_88_4 : e_Y := u_ld f_okI f_l1 n_88_5
theorem t_88_4 : e_Sn 88 4 (e_un n_88_4) := u_ldIT f_l1_eq (s_iload (i := .iload_n 1) (len := 1) hq_88 (by decide +kernel) rfl (.inr ⟨1, rfl, rfl, rfl⟩) : e_Sn 88 4 (o_load e_okI 1 5)) t_88_5
noncomputable def n_88_3 : e_Y := u_st f_okA f_s2 n_88_4
theorem t_88_3 : e_Sn 88 3 (e_un n_88_3) := u_stAT (fun _ _ _ => f_s2_eq) (s_astore (i := .astore_n 2) (len := 1) hq_88 (by decide +kernel) rfl (.inr ⟨2, rfl, rfl, rfl⟩) : e_Sn 88 3 (o_store e_okR 2 4)) t_88_4
noncomputable def n_88_1 : e_Y := u_tab (o_newa 2 (e_L 9223372036854775808) 3)
theorem t_88_1 : e_Sn 88 1 (e_un n_88_1) := u_tabT (s_newJ r_m_1_142 hq_88 (by decide +kernel) rfl : e_Sn 88 1 (o_newa 2 (e_L 9223372036854775808) 3))
noncomputable def n_88_0 : e_Y := u_ld f_okI f_l1 n_88_1
theorem t_88_0 : e_Sn 88 0 (e_un n_88_0) := u_ldIT f_l1_eq (s_iload (i := .iload_n 1) (len := 1) hq_88 (by decide +kernel) rfl (.inr ⟨1, rfl, rfl, rfl⟩) : e_Sn 88 0 (o_load e_okI 1 1)) t_88_1
noncomputable def e_tb_88 : e_X := (e_br 3 (e_lf 0 (e_un n_88_0)) (e_br 8 (e_lf 3 (e_un n_88_3)) (e_lf 8 (e_un n_88_8))))
theorem e_tk_88 : e_Tb 88 e_tb_88 := (e_brT (e_lfT t_88_0) (e_brT (e_lfT t_88_3) (e_lfT t_88_8)))
theorem hq_87 : (e_ml[87]?).map (·.2.1) = some prog_20_method_13_code := Eq.trans (congrArg (Option.map (fun e => e.2.1)) hy_87) rfl
theorem ho_87 : (e_ml[87]?).map (·.1.cls) = some "PlateroomprinterModel$Run" := Eq.trans (congrArg (Option.map (fun e => e.1.cls)) hy_87) rfl
theorem hr_87 : (e_ml[87]?).map (·.2.2.2) = some (some .int) := Eq.trans (congrArg (Option.map (fun e => e.2.2.2)) hy_87) rfl
noncomputable def n_87_23 : e_Y := u_retI
theorem t_87_23 : e_Sn 87 23 (e_un n_87_23) := u_retIT (s_iret hq_87 hr_87 (by decide +kernel) : e_Sn 87 23 (o_ret e_okI))
noncomputable def n_87_22 : e_Y := u_ld f_okI f_l3 n_87_23
theorem t_87_22 : e_Sn 87 22 (e_un n_87_22) := u_ldIT f_l3_eq (s_iload (i := .iload_n 3) (len := 1) hq_87 (by decide +kernel) rfl (.inr ⟨3, rfl, rfl, rfl⟩) : e_Sn 87 22 (o_load e_okI 3 23)) t_87_23
noncomputable def n_87_19 : e_Y := u_callS 68 2 21 2 n_68_0 n_87_22
theorem t_87_19 : e_Sn 87 19 (e_un n_87_19) := u_callST rfl (s_callSN (host := "PlateroomprinterModel") (index := 73) hq_87 ho_87 hy_68 hp_68 hc_68 hi_68 hd_68 r_m_9_142 hs_68 (by decide +kernel) rfl : e_Sn 87 19 (o_callS 68 2 2 22)) t_68_0 t_87_22
noncomputable def n_87_18 : e_Y := u_push (.inl 2147483651) n_87_19
theorem t_87_18 : e_Sn 87 18 (e_un n_87_18) := u_pushT (s_iconst (n := (3)) hq_87 (by decide +kernel) rfl ⟨by decide +kernel, by decide +kernel⟩ : e_Sn 87 18 (o_push (.inl 2147483651) 19)) t_87_19
noncomputable def n_87_15 : e_Y := u_callS 66 6 25 3 n_66_0 n_87_18
theorem t_87_15 : e_Sn 87 15 (e_un n_87_15) := u_callST rfl (s_callSN (host := "PlateroomprinterModel") (index := 129) hq_87 ho_87 hy_66 hp_66 hc_66 hi_66 hd_66 r_m_9_141 hs_66 (by decide +kernel) rfl : e_Sn 87 15 (o_callS 66 6 3 18)) t_66_0 t_87_18
noncomputable def n_87_14 : e_Y := u_old (o_i2l 15) n_87_15
theorem t_87_14 : e_Sn 87 14 (e_un n_87_14) := u_oldT (s_i2l hq_87 (by decide +kernel) rfl : e_Sn 87 14 (o_i2l 15)) t_87_15 e_congr_i2l
noncomputable def n_87_13 : e_Y := u_ld f_okI f_l2 n_87_14
theorem t_87_13 : e_Sn 87 13 (e_un n_87_13) := u_ldIT f_l2_eq (s_iload (i := .iload_n 2) (len := 1) hq_87 (by decide +kernel) rfl (.inr ⟨2, rfl, rfl, rfl⟩) : e_Sn 87 13 (o_load e_okI 2 14)) t_87_14
noncomputable def n_87_12 : e_Y := u_old (o_i2l 13) n_87_13
theorem t_87_12 : e_Sn 87 12 (e_un n_87_12) := u_oldT (s_i2l hq_87 (by decide +kernel) rfl : e_Sn 87 12 (o_i2l 13)) t_87_13 e_congr_i2l
noncomputable def n_87_11 : e_Y := u_ld f_okI f_l1 n_87_12
theorem t_87_11 : e_Sn 87 11 (e_un n_87_11) := u_ldIT f_l1_eq (s_iload (i := .iload_n 1) (len := 1) hq_87 (by decide +kernel) rfl (.inr ⟨1, rfl, rfl, rfl⟩) : e_Sn 87 11 (o_load e_okI 1 12)) t_87_12
noncomputable def n_87_10 : e_Y := u_old (o_i2l 11) n_87_11
theorem t_87_10 : e_Sn 87 10 (e_un n_87_10) := u_oldT (s_i2l hq_87 (by decide +kernel) rfl : e_Sn 87 10 (o_i2l 11)) t_87_11 e_congr_i2l
noncomputable def n_87_9 : e_Y := u_ld f_okI f_l3 n_87_10
theorem t_87_9 : e_Sn 87 9 (e_un n_87_9) := u_ldIT f_l3_eq (s_iload (i := .iload_n 3) (len := 1) hq_87 (by decide +kernel) rfl (.inr ⟨3, rfl, rfl, rfl⟩) : e_Sn 87 9 (o_load e_okI 3 10)) t_87_10
noncomputable def n_87_8 : e_Y := u_st f_okI f_s3 n_87_9
theorem t_87_8 : e_Sn 87 8 (e_un n_87_8) := u_stIT (fun _ _ _ => f_s3_eq) (s_istore (i := .istore_n 3) (len := 1) hq_87 (by decide +kernel) rfl (.inr ⟨3, rfl, rfl, rfl⟩) : e_Sn 87 8 (o_store e_okI 3 9)) t_87_9
noncomputable def n_87_7 : e_Y := u_old (o_l2i 8) n_87_8
theorem t_87_7 : e_Sn 87 7 (e_un n_87_7) := u_oldT (s_l2i hq_87 (by decide +kernel) rfl : e_Sn 87 7 (o_l2i 8)) t_87_8 e_cg_l2i
noncomputable def n_87_6 : e_Y := u_ald 2 (u_old (o_aldO 2 7) n_87_7) n_87_7
theorem t_87_6 : e_Sn 87 6 (e_un n_87_6) := u_aldOT (s_lald hq_87 (by decide +kernel) rfl : e_Sn 87 6 (o_aldO 2 7)) t_87_7
noncomputable def n_87_5 : e_Y := u_push (.inl 2147483648) n_87_6
theorem t_87_5 : e_Sn 87 5 (e_un n_87_5) := u_pushT (s_iconst (n := (0)) hq_87 (by decide +kernel) rfl ⟨by decide +kernel, by decide +kernel⟩ : e_Sn 87 5 (o_push (.inl 2147483648) 6)) t_87_6
noncomputable def n_87_2 : e_Y := u_callV 16 88 4 23 2 n_88_0 n_87_5
theorem t_87_2 : e_Sn 87 2 (e_un n_87_2) := u_callVT rfl (s_callV (ci := 16) (C := er_16) (T := et_16) (N := 5) (index := 155) hq_87 ho_87 hy_88 hp_88 hc_88 hi_88 hd_88 (r_k9 (List.mem_of_getElem? (i := 206) (by decide +kernel))) hs_88 (List.mem_of_getElem? (i := 24) (by decide +kernel)) rfl (by decide +kernel) rfl : e_Sn 87 2 (o_callV (e_s1 16 88 4) 2 5)) t_88_0 t_87_5
noncomputable def n_87_1 : e_Y := u_push (.inl 2147483649) n_87_2
theorem t_87_1 : e_Sn 87 1 (e_un n_87_1) := u_pushT (s_iconst (n := (1)) hq_87 (by decide +kernel) rfl ⟨by decide +kernel, by decide +kernel⟩ : e_Sn 87 1 (o_push (.inl 2147483649) 2)) t_87_2
noncomputable def n_87_0 : e_Y := u_ld f_okA f_l0 n_87_1
theorem t_87_0 : e_Sn 87 0 (e_un n_87_0) := u_ldAT f_l0_eq (s_aload (i := .aload_n 0) (len := 1) hq_87 (by decide +kernel) rfl (.inr ⟨0, rfl, rfl, rfl⟩) : e_Sn 87 0 (o_load e_okR 0 1)) t_87_1
noncomputable def e_tb_87 : e_X := (e_lf 0 (e_un n_87_0))
theorem e_tk_87 : e_Tb 87 e_tb_87 := (e_lfT t_87_0)
theorem hq_83 : (e_ml[83]?).map (·.2.1) = some prog_20_method_19_code := Eq.trans (congrArg (Option.map (fun e => e.2.1)) hy_83) rfl
theorem ho_83 : (e_ml[83]?).map (·.1.cls) = some "PlateroomprinterModel$Run" := Eq.trans (congrArg (Option.map (fun e => e.1.cls)) hy_83) rfl
theorem hr_83 : (e_ml[83]?).map (·.2.2.2) = some none := Eq.trans (congrArg (Option.map (fun e => e.2.2.2)) hy_83) rfl
noncomputable def n_83_482 : e_Y := u_retV
theorem t_83_482 : e_Sn 83 482 (e_un n_83_482) := u_retVT (s_vret hq_83 hr_83 (by decide +kernel) : e_Sn 83 482 (o_retv))
noncomputable def n_83_391 : e_Y := n_83_482
theorem t_83_391 : e_Sn 83 391 (e_un n_83_391) := u_gotoT (s_goto (off := (91)) hq_83 (by decide +kernel) rfl : e_Sn 83 391 (o_goto 482)) t_83_482
noncomputable def n_83_388 : e_Y := u_callV 16 82 2 21 2 n_82_0 n_83_391
theorem t_83_388 : e_Sn 83 388 (e_un n_83_388) := u_callVT rfl (s_callV (ci := 16) (C := er_16) (T := et_16) (N := 5) (index := 213) hq_83 ho_83 hy_82 hp_82 hc_82 hi_82 hd_82 (r_k9 (List.mem_of_getElem? (i := 234) (by decide +kernel))) hs_82 (List.mem_of_getElem? (i := 30) (by decide +kernel)) rfl (by decide +kernel) rfl : e_Sn 83 388 (o_callV (e_s1 16 82 2) 2 391)) t_82_0 t_83_391
noncomputable def n_83_386 : e_Y := u_ld f_okA f_l11 n_83_388
theorem t_83_386 : e_Sn 83 386 (e_un n_83_386) := u_ldAT f_l11_eq (s_aload (i := .aload 11) (len := 2) hq_83 (by decide +kernel) rfl (.inl ⟨rfl, rfl⟩) : e_Sn 83 386 (o_load e_okR 11 388)) t_83_388
noncomputable def n_83_385 : e_Y := u_ld f_okA f_l0 n_83_386
theorem t_83_385 : e_Sn 83 385 (e_un n_83_385) := u_ldAT f_l0_eq (s_aload (i := .aload_n 0) (len := 1) hq_83 (by decide +kernel) rfl (.inr ⟨0, rfl, rfl, rfl⟩) : e_Sn 83 385 (o_load e_okR 0 386)) t_83_386
noncomputable def n_83_382 : e_Y := u_putf 15 3 f_okI (u_old (o_putf (e_f1 15 3) e_okI 385) n_83_385) n_83_385
theorem t_83_382 : e_Sn 83 382 (e_un n_83_382) := u_putfT (fun _ => f_okI_eq) (s_putf (ty0 := ey_15) (ok := e_okI) (C := er_15) (T := et_15) (N := 8) (ref := "PlateroomprinterModel$Row") (index := 111) (ci := 15) (k := 3) hq_83 ho_83 ⟨rfl, by decide, ei_15, r_m_9_66, .inl rfl⟩ eo_15 en_15 e_oksI (.inl rfl) (by decide +kernel) rfl : e_Sn 83 382 (o_putf (e_f1 15 3) e_okI 385)) t_83_385
noncomputable def n_83_379 : e_Y := u_callV 16 87 4 23 3 n_87_0 n_83_382
theorem t_83_379 : e_Sn 83 379 (e_un n_83_379) := u_callVT rfl (s_callV (ci := 16) (C := er_16) (T := et_16) (N := 5) (index := 210) hq_83 ho_83 hy_87 hp_87 hc_87 hi_87 hd_87 (r_k9 (List.mem_of_getElem? (i := 230) (by decide +kernel))) hs_87 (List.mem_of_getElem? (i := 29) (by decide +kernel)) rfl (by decide +kernel) rfl : e_Sn 83 379 (o_callV (e_s1 16 87 4) 3 382)) t_87_0 t_83_382
noncomputable def n_83_377 : e_Y := u_push (.inl 2147483747) n_83_379
theorem t_83_377 : e_Sn 83 377 (e_un n_83_377) := u_pushT (s_bipush (n := (99)) hq_83 (by decide +kernel) rfl ⟨by decide +kernel, by decide +kernel⟩ : e_Sn 83 377 (o_push (.inl 2147483747) 379)) t_83_379
noncomputable def n_83_376 : e_Y := u_push (.inl 2147483648) n_83_377
theorem t_83_376 : e_Sn 83 376 (e_un n_83_376) := u_pushT (s_iconst (n := (0)) hq_83 (by decide +kernel) rfl ⟨by decide +kernel, by decide +kernel⟩ : e_Sn 83 376 (o_push (.inl 2147483648) 377)) t_83_377
noncomputable def n_83_375 : e_Y := u_ld f_okA f_l0 n_83_376
theorem t_83_375 : e_Sn 83 375 (e_un n_83_375) := u_ldAT f_l0_eq (s_aload (i := .aload_n 0) (len := 1) hq_83 (by decide +kernel) rfl (.inr ⟨0, rfl, rfl, rfl⟩) : e_Sn 83 375 (o_load e_okR 0 376)) t_83_376
noncomputable def n_83_373 : e_Y := u_ld f_okA f_l11 n_83_375
theorem t_83_373 : e_Sn 83 373 (e_un n_83_373) := u_ldAT f_l11_eq (s_aload (i := .aload 11) (len := 2) hq_83 (by decide +kernel) rfl (.inl ⟨rfl, rfl⟩) : e_Sn 83 373 (o_load e_okR 11 375)) t_83_375
noncomputable def n_83_371 : e_Y := u_st f_okA f_s11 n_83_373
theorem t_83_371 : e_Sn 83 371 (e_un n_83_371) := u_stAT (fun _ _ _ => f_s11_eq) (s_astore (i := .astore 11) (len := 2) hq_83 (by decide +kernel) rfl (.inl ⟨rfl, rfl⟩) : e_Sn 83 371 (o_store e_okR 11 373)) t_83_373
noncomputable def n_83_368 : e_Y := u_callI 77 2 21 2 n_77_0 n_83_371
theorem t_83_368 : e_Sn 83 368 (e_un n_83_368) := u_callIT rfl (s_callI (index := 31) hq_83 ho_83 hy_77 hp_77 hc_77 hi_77 hd_77 r_m_9_57 rfl rfl hs_77 (by decide +kernel) rfl : e_Sn 83 368 (o_callI 77 2 2 371)) t_77_0 t_83_371
noncomputable def n_83_365 : e_Y := u_getf 13 2 (u_old (o_getf (e_f1 13 2) 368) n_83_368) n_83_368
theorem t_83_365 : e_Sn 83 365 (e_un n_83_365) := u_getfT (s_getf (C := er_13) (T := et_13) (N := 3) (ref := "PlateroomprinterModel$Item") (index := 181) (ci := 13) (k := 2) hq_83 ho_83 ⟨rfl, by decide, ei_13, (r_k9 (List.mem_of_getElem? (i := 180) (by decide +kernel))), .inl rfl⟩ (by decide +kernel) rfl : e_Sn 83 365 (o_getf (e_f1 13 2) 368)) t_83_368
noncomputable def n_83_362 : e_Y := u_callV 16 96 3 22 2 n_96_0 n_83_365
theorem t_83_362 : e_Sn 83 362 (e_un n_83_362) := u_callVT rfl (s_callV (ci := 16) (C := er_16) (T := et_16) (N := 5) (index := 149) hq_83 ho_83 hy_96 hp_96 hc_96 hi_96 hd_96 r_m_9_210 hs_96 (List.mem_of_getElem? (i := 25) (by decide +kernel)) rfl (by decide +kernel) rfl : e_Sn 83 362 (o_callV (e_s1 16 96 3) 2 365)) t_96_0 t_83_365
noncomputable def n_83_361 : e_Y := u_push (.inl 2147483650) n_83_362
theorem t_83_361 : e_Sn 83 361 (e_un n_83_361) := u_pushT (s_iconst (n := (2)) hq_83 (by decide +kernel) rfl ⟨by decide +kernel, by decide +kernel⟩ : e_Sn 83 361 (o_push (.inl 2147483650) 362)) t_83_362
noncomputable def n_83_360 : e_Y := u_ld f_okA f_l0 n_83_361
theorem t_83_360 : e_Sn 83 360 (e_un n_83_360) := u_ldAT f_l0_eq (s_aload (i := .aload_n 0) (len := 1) hq_83 (by decide +kernel) rfl (.inr ⟨0, rfl, rfl, rfl⟩) : e_Sn 83 360 (o_load e_okR 0 361)) t_83_361
noncomputable def n_83_359 : e_Y := u_old (o_dup 360) n_83_360
theorem t_83_359 : e_Sn 83 359 (e_un n_83_359) := u_oldT (s_dup hq_83 (by decide +kernel) rfl : e_Sn 83 359 (o_dup 360)) t_83_360 e_cg_dup
noncomputable def n_83_356 : e_Y := u_tab (o_new 15 8 ef_15 359)
theorem t_83_356 : e_Sn 83 356 (e_un n_83_356) := u_tabT (s_new (index := 29) (ci := 15) (N := 8) (C := er_15) (T := et_15) (ty0 := ey_15) (fv := eg_15) hq_83 ho_83 rfl ei_15 eo_15 r_m_9_55 r_m_9_56 r_m_1_34 eh_15 rfl (e_newrel ek_15) (by decide +kernel) rfl : e_Sn 83 356 (o_new 15 8 ef_15 359))
noncomputable def n_83_1 : e_Y := u_tab (o_switch 2147483657 [60, 78, 86, 111, 198, 216, 243, 265, 303, 356, 394] 478)
theorem t_83_1 : e_Sn 83 1 (e_un n_83_1) := u_tabT (s_switch (dflt := (477)) (low := (9)) (hi := (19)) (offs := #[(59), (77), (85), (110), (197), (215), (242), (264), (302), (355), (393)]) (len := 59) hq_83 (by decide +kernel) rfl rfl rfl rfl : e_Sn 83 1 (o_switch 2147483657 [60, 78, 86, 111, 198, 216, 243, 265, 303, 356, 394] 478))
noncomputable def n_83_0 : e_Y := u_ld f_okI f_l1 n_83_1
theorem t_83_0 : e_Sn 83 0 (e_un n_83_0) := u_ldIT f_l1_eq (s_iload (i := .iload_n 1) (len := 1) hq_83 (by decide +kernel) rfl (.inr ⟨1, rfl, rfl, rfl⟩) : e_Sn 83 0 (o_load e_okI 1 1)) t_83_1
noncomputable def e_tb_83 : e_X := (e_br 356 (e_lf 0 (e_un n_83_0)) (e_br 359 (e_lf 356 (e_un n_83_356)) (e_lf 359 (e_un n_83_359))))
theorem e_tk_83 : e_Tb 83 e_tb_83 := (e_brT (e_lfT t_83_0) (e_brT (e_lfT t_83_356) (e_lfT t_83_359)))
theorem hq_90 : (e_ml[90]?).map (·.2.1) = some prog_20_method_47_code := Eq.trans (congrArg (Option.map (fun e => e.2.1)) hy_90) rfl
theorem ho_90 : (e_ml[90]?).map (·.1.cls) = some "PlateroomprinterModel$Run" := Eq.trans (congrArg (Option.map (fun e => e.1.cls)) hy_90) rfl
theorem hr_90 : (e_ml[90]?).map (·.2.2.2) = some none := Eq.trans (congrArg (Option.map (fun e => e.2.2.2)) hy_90) rfl
noncomputable def n_90_53 : e_Y := u_retV
theorem t_90_53 : e_Sn 90 53 (e_un n_90_53) := u_retVT (s_vret hq_90 hr_90 (by decide +kernel) : e_Sn 90 53 (o_retv))
noncomputable def n_90_50 : e_Y := u_putf 14 5 f_okA (u_old (o_putf (e_f1 14 5) e_okR 53) n_90_53) n_90_53
theorem t_90_50 : e_Sn 90 50 (e_un n_90_50) := u_putfT (fun _ => f_okA_eq) (s_putf (ty0 := ey_14) (ok := e_okR) (C := er_14) (T := et_14) (N := 13) (ref := "PlateroomprinterModel$Machine") (index := 326) (ci := 14) (k := 5) hq_90 ho_90 ⟨rfl, by decide, ei_14, (r_k8 (List.mem_of_getElem? (i := 89) (by decide +kernel))), .inl rfl⟩ eo_14 en_14 e_oksR (.inl rfl) (by decide +kernel) rfl : e_Sn 90 50 (o_putf (e_f1 14 5) e_okR 53)) t_90_53
noncomputable def n_90_47 : e_Y := u_callI 105 1 20 1 n_105_0 n_90_50
theorem t_90_47 : e_Sn 90 47 (e_un n_90_47) := u_callIT rfl (s_callI (index := 11) hq_90 ho_90 hy_105 hp_105 hc_105 hi_105 hd_105 r_m_9_54 rfl rfl hs_105 (by decide +kernel) rfl : e_Sn 90 47 (o_callI 105 1 1 50)) t_105_0 t_90_50
noncomputable def n_90_46 : e_Y := u_old (o_dup 47) n_90_47
theorem t_90_46 : e_Sn 90 46 (e_un n_90_46) := u_oldT (s_dup hq_90 (by decide +kernel) rfl : e_Sn 90 46 (o_dup 47)) t_90_47 e_cg_dup
noncomputable def n_90_43 : e_Y := u_tab (o_new 19 3 ef_19 46)
theorem t_90_43 : e_Sn 90 43 (e_un n_90_43) := u_tabT (s_new (index := 9) (ci := 19) (N := 3) (C := er_19) (T := et_19) (ty0 := ey_19) (fv := eg_19) hq_90 ho_90 rfl ei_19 eo_19 r_m_9_53 r_m_7_174 r_m_1_18 eh_19 rfl (e_newrel ek_19) (by decide +kernel) rfl : e_Sn 90 43 (o_new 19 3 ef_19 46))
noncomputable def n_90_40 : e_Y := u_getf 16 0 (u_old (o_getf (e_f1 16 0) 43) n_90_43) n_90_43
theorem t_90_40 : e_Sn 90 40 (e_un n_90_40) := u_getfT (s_getf (C := er_16) (T := et_16) (N := 5) (ref := "PlateroomprinterModel$Run") (index := 25) (ci := 16) (k := 0) hq_90 ho_90 ⟨rfl, by decide, ei_16, r_m_9_89, .inl rfl⟩ (by decide +kernel) rfl : e_Sn 90 40 (o_getf (e_f1 16 0) 43)) t_90_43
noncomputable def n_90_39 : e_Y := u_ld f_okA f_l0 n_90_40
theorem t_90_39 : e_Sn 90 39 (e_un n_90_39) := u_ldAT f_l0_eq (s_aload (i := .aload_n 0) (len := 1) hq_90 (by decide +kernel) rfl (.inr ⟨0, rfl, rfl, rfl⟩) : e_Sn 90 39 (o_load e_okR 0 40)) t_90_40
noncomputable def n_90_36 : e_Y := u_putf 14 6 f_okA (u_old (o_putf (e_f1 14 6) e_okR 39) n_90_39) n_90_39
theorem t_90_36 : e_Sn 90 36 (e_un n_90_36) := u_putfT (fun _ => f_okA_eq) (s_putf (ty0 := ey_14) (ok := e_okR) (C := er_14) (T := et_14) (N := 13) (ref := "PlateroomprinterModel$Machine") (index := 356) (ci := 14) (k := 6) hq_90 ho_90 ⟨rfl, by decide, ei_14, r_m_8_92, .inl rfl⟩ eo_14 en_14 e_oksA (.inl rfl) (by decide +kernel) rfl : e_Sn 90 36 (o_putf (e_f1 14 6) e_okR 39)) t_90_39
noncomputable def n_90_34 : e_Y := u_tab (o_newa 1 (e_I 2147483648) 36)
theorem t_90_34 : e_Sn 90 34 (e_un n_90_34) := u_tabT (s_newZ r_m_8_2 hq_90 (by decide +kernel) rfl : e_Sn 90 34 (o_newa 1 (e_I 2147483648) 36))
noncomputable def n_90_31 : e_Y := u_push (.inl 2147487744) n_90_34
theorem t_90_31 : e_Sn 90 31 (e_un n_90_31) := u_pushT (s_sipush (n := (4096)) hq_90 (by decide +kernel) rfl ⟨by decide +kernel, by decide +kernel⟩ : e_Sn 90 31 (o_push (.inl 2147487744) 34)) t_90_34
noncomputable def n_90_28 : e_Y := u_getf 16 0 (u_old (o_getf (e_f1 16 0) 31) n_90_31) n_90_31
theorem t_90_28 : e_Sn 90 28 (e_un n_90_28) := u_getfT (s_getf (C := er_16) (T := et_16) (N := 5) (ref := "PlateroomprinterModel$Run") (index := 25) (ci := 16) (k := 0) hq_90 ho_90 ⟨rfl, by decide, ei_16, r_m_9_89, .inl rfl⟩ (by decide +kernel) rfl : e_Sn 90 28 (o_getf (e_f1 16 0) 31)) t_90_31
noncomputable def n_90_27 : e_Y := u_ld f_okA f_l0 n_90_28
theorem t_90_27 : e_Sn 90 27 (e_un n_90_27) := u_ldAT f_l0_eq (s_aload (i := .aload_n 0) (len := 1) hq_90 (by decide +kernel) rfl (.inr ⟨0, rfl, rfl, rfl⟩) : e_Sn 90 27 (o_load e_okR 0 28)) t_90_28
noncomputable def n_90_24 : e_Y := u_putf 14 7 f_okA (u_old (o_putf (e_f1 14 7) e_okR 27) n_90_27) n_90_27
theorem t_90_24 : e_Sn 90 24 (e_un n_90_24) := u_putfT (fun _ => f_okA_eq) (s_putf (ty0 := ey_14) (ok := e_okR) (C := er_14) (T := et_14) (N := 13) (ref := "PlateroomprinterModel$Machine") (index := 502) (ci := 14) (k := 7) hq_90 ho_90 ⟨rfl, by decide, ei_14, (r_k8 (List.mem_of_getElem? (i := 95) (by decide +kernel))), .inl rfl⟩ eo_14 en_14 e_oksA (.inl rfl) (by decide +kernel) rfl : e_Sn 90 24 (o_putf (e_f1 14 7) e_okR 27)) t_90_27
noncomputable def n_90_21 : e_Y := u_getf 14 6 (u_old (o_getf (e_f1 14 6) 24) n_90_24) n_90_24
theorem t_90_21 : e_Sn 90 21 (e_un n_90_21) := u_getfT (s_getf (C := er_14) (T := et_14) (N := 13) (ref := "PlateroomprinterModel$Machine") (index := 356) (ci := 14) (k := 6) hq_90 ho_90 ⟨rfl, by decide, ei_14, r_m_8_92, .inl rfl⟩ (by decide +kernel) rfl : e_Sn 90 21 (o_getf (e_f1 14 6) 24)) t_90_24
noncomputable def n_90_18 : e_Y := u_getf 16 0 (u_old (o_getf (e_f1 16 0) 21) n_90_21) n_90_21
theorem t_90_18 : e_Sn 90 18 (e_un n_90_18) := u_getfT (s_getf (C := er_16) (T := et_16) (N := 5) (ref := "PlateroomprinterModel$Run") (index := 25) (ci := 16) (k := 0) hq_90 ho_90 ⟨rfl, by decide, ei_16, r_m_9_89, .inl rfl⟩ (by decide +kernel) rfl : e_Sn 90 18 (o_getf (e_f1 16 0) 21)) t_90_21
noncomputable def n_90_17 : e_Y := u_ld f_okA f_l0 n_90_18
theorem t_90_17 : e_Sn 90 17 (e_un n_90_17) := u_ldAT f_l0_eq (s_aload (i := .aload_n 0) (len := 1) hq_90 (by decide +kernel) rfl (.inr ⟨0, rfl, rfl, rfl⟩) : e_Sn 90 17 (o_load e_okR 0 18)) t_90_18
noncomputable def n_90_14 : e_Y := u_getf 16 0 (u_old (o_getf (e_f1 16 0) 17) n_90_17) n_90_17
theorem t_90_14 : e_Sn 90 14 (e_un n_90_14) := u_getfT (s_getf (C := er_16) (T := et_16) (N := 5) (ref := "PlateroomprinterModel$Run") (index := 25) (ci := 16) (k := 0) hq_90 ho_90 ⟨rfl, by decide, ei_16, r_m_9_89, .inl rfl⟩ (by decide +kernel) rfl : e_Sn 90 14 (o_getf (e_f1 16 0) 17)) t_90_17
noncomputable def n_90_13 : e_Y := u_ld f_okA f_l0 n_90_14
theorem t_90_13 : e_Sn 90 13 (e_un n_90_13) := u_ldAT f_l0_eq (s_aload (i := .aload_n 0) (len := 1) hq_90 (by decide +kernel) rfl (.inr ⟨0, rfl, rfl, rfl⟩) : e_Sn 90 13 (o_load e_okR 0 14)) t_90_14
noncomputable def n_90_10 : e_Y := u_putf 14 8 f_okI (u_old (o_putf (e_f1 14 8) e_okI 13) n_90_13) n_90_13
theorem t_90_10 : e_Sn 90 10 (e_un n_90_10) := u_putfT (fun _ => f_okI_eq) (s_putf (ty0 := ey_14) (ok := e_okI) (C := er_14) (T := et_14) (N := 13) (ref := "PlateroomprinterModel$Machine") (index := 499) (ci := 14) (k := 8) hq_90 ho_90 ⟨rfl, by decide, ei_14, r_m_8_99, .inl rfl⟩ eo_14 en_14 e_oksI (.inl rfl) (by decide +kernel) rfl : e_Sn 90 10 (o_putf (e_f1 14 8) e_okI 13)) t_90_13
noncomputable def n_90_9 : e_Y := u_bin a_iadd (u_old (o_iadd 10) n_90_10) n_90_10
theorem t_90_9 : e_Sn 90 9 (e_un n_90_9) := u_iaddT (s_iadd hq_90 (by decide +kernel) rfl : e_Sn 90 9 (o_iadd 10)) t_90_10
noncomputable def n_90_8 : e_Y := u_push (.inl 2147483649) n_90_9
theorem t_90_8 : e_Sn 90 8 (e_un n_90_8) := u_pushT (s_iconst (n := (1)) hq_90 (by decide +kernel) rfl ⟨by decide +kernel, by decide +kernel⟩ : e_Sn 90 8 (o_push (.inl 2147483649) 9)) t_90_9
noncomputable def n_90_5 : e_Y := u_getf 14 8 (u_old (o_getf (e_f1 14 8) 8) n_90_8) n_90_8
theorem t_90_5 : e_Sn 90 5 (e_un n_90_5) := u_getfT (s_getf (C := er_14) (T := et_14) (N := 13) (ref := "PlateroomprinterModel$Machine") (index := 499) (ci := 14) (k := 8) hq_90 ho_90 ⟨rfl, by decide, ei_14, r_m_8_99, .inl rfl⟩ (by decide +kernel) rfl : e_Sn 90 5 (o_getf (e_f1 14 8) 8)) t_90_8
noncomputable def n_90_4 : e_Y := u_old (o_dup 5) n_90_5
theorem t_90_4 : e_Sn 90 4 (e_un n_90_4) := u_oldT (s_dup hq_90 (by decide +kernel) rfl : e_Sn 90 4 (o_dup 5)) t_90_5 e_cg_dup
noncomputable def n_90_1 : e_Y := u_getf 16 0 (u_old (o_getf (e_f1 16 0) 4) n_90_4) n_90_4
theorem t_90_1 : e_Sn 90 1 (e_un n_90_1) := u_getfT (s_getf (C := er_16) (T := et_16) (N := 5) (ref := "PlateroomprinterModel$Run") (index := 25) (ci := 16) (k := 0) hq_90 ho_90 ⟨rfl, by decide, ei_16, r_m_9_89, .inl rfl⟩ (by decide +kernel) rfl : e_Sn 90 1 (o_getf (e_f1 16 0) 4)) t_90_4
noncomputable def n_90_0 : e_Y := u_ld f_okA f_l0 n_90_1
theorem t_90_0 : e_Sn 90 0 (e_un n_90_0) := u_ldAT f_l0_eq (s_aload (i := .aload_n 0) (len := 1) hq_90 (by decide +kernel) rfl (.inr ⟨0, rfl, rfl, rfl⟩) : e_Sn 90 0 (o_load e_okR 0 1)) t_90_1
noncomputable def e_tb_90 : e_X := (e_br 36 (e_lf 0 (e_un n_90_0)) (e_br 46 (e_lf 36 (e_un n_90_36)) (e_lf 46 (e_un n_90_46))))
theorem e_tk_90 : e_Tb 90 e_tb_90 := (e_brT (e_lfT t_90_0) (e_brT (e_lfT t_90_36) (e_lfT t_90_46)))
theorem hq_91 : (e_ml[91]?).map (·.2.1) = some prog_20_method_38_code := Eq.trans (congrArg (Option.map (fun e => e.2.1)) hy_91) rfl
theorem ho_91 : (e_ml[91]?).map (·.1.cls) = some "PlateroomprinterModel$Run" := Eq.trans (congrArg (Option.map (fun e => e.1.cls)) hy_91) rfl
theorem hr_91 : (e_ml[91]?).map (·.2.2.2) = some none := Eq.trans (congrArg (Option.map (fun e => e.2.2.2)) hy_91) rfl
noncomputable def n_91_465 : e_Y := u_retV
theorem t_91_465 : e_Sn 91 465 (e_un n_91_465) := u_retVT (s_vret hq_91 hr_91 (by decide +kernel) : e_Sn 91 465 (o_retv))
noncomputable def n_91_462 : e_Y := u_callV 16 90 1 20 1 n_90_0 n_91_465
theorem t_91_462 : e_Sn 91 462 (e_un n_91_462) := u_callVT rfl (s_callV (ci := 16) (C := er_16) (T := et_16) (N := 5) (index := 429) hq_91 ho_91 hy_90 hp_90 hc_90 hi_90 hd_90 (r_k12 (List.mem_of_getElem? (i := 96) (by decide +kernel))) hs_90 (List.mem_of_getElem? (i := 32) (by decide +kernel)) rfl (by decide +kernel) rfl : e_Sn 91 462 (o_callV (e_s1 16 90 1) 1 465)) t_90_0 t_91_465
noncomputable def n_91_461 : e_Y := u_ld f_okA f_l0 n_91_462
theorem t_91_461 : e_Sn 91 461 (e_un n_91_461) := u_ldAT f_l0_eq (s_aload (i := .aload_n 0) (len := 1) hq_91 (by decide +kernel) rfl (.inr ⟨0, rfl, rfl, rfl⟩) : e_Sn 91 461 (o_load e_okR 0 462)) t_91_462
noncomputable def n_91_9 : e_Y := u_tab (o_switch 2147483683 [92, 92, 125, 187, 187, 239, 269, 269, 291, 307, 322, 337, 353, 370, 392, 406, 435] 461)
theorem t_91_9 : e_Sn 91 9 (e_un n_91_9) := u_tabT (s_switch (dflt := (452)) (low := (35)) (hi := (51)) (offs := #[(83), (83), (116), (178), (178), (230), (260), (260), (282), (298), (313), (328), (344), (361), (383), (397), (426)]) (len := 83) hq_91 (by decide +kernel) rfl rfl rfl rfl : e_Sn 91 9 (o_switch 2147483683 [92, 92, 125, 187, 187, 239, 269, 269, 291, 307, 322, 337, 353, 370, 392, 406, 435] 461))
noncomputable def n_91_8 : e_Y := u_ld f_okI f_l1 n_91_9
theorem t_91_8 : e_Sn 91 8 (e_un n_91_8) := u_ldIT f_l1_eq (s_iload (i := .iload_n 1) (len := 1) hq_91 (by decide +kernel) rfl (.inr ⟨1, rfl, rfl, rfl⟩) : e_Sn 91 8 (o_load e_okI 1 9)) t_91_9
noncomputable def n_91_7 : e_Y := u_st f_okA f_s2 n_91_8
theorem t_91_7 : e_Sn 91 7 (e_un n_91_7) := u_stAT (fun _ _ _ => f_s2_eq) (s_astore (i := .astore_n 2) (len := 1) hq_91 (by decide +kernel) rfl (.inr ⟨2, rfl, rfl, rfl⟩) : e_Sn 91 7 (o_store e_okR 2 8)) t_91_8
noncomputable def n_91_4 : e_Y := u_getf 14 2 (u_old (o_getf (e_f1 14 2) 7) n_91_7) n_91_7
theorem t_91_4 : e_Sn 91 4 (e_un n_91_4) := u_getfT (s_getf (C := er_14) (T := et_14) (N := 13) (ref := "PlateroomprinterModel$Machine") (index := 219) (ci := 14) (k := 2) hq_91 ho_91 ⟨rfl, by decide, ei_14, (r_k8 (List.mem_of_getElem? (i := 80) (by decide +kernel))), .inl rfl⟩ (by decide +kernel) rfl : e_Sn 91 4 (o_getf (e_f1 14 2) 7)) t_91_7
noncomputable def n_91_1 : e_Y := u_getf 16 0 (u_old (o_getf (e_f1 16 0) 4) n_91_4) n_91_4
theorem t_91_1 : e_Sn 91 1 (e_un n_91_1) := u_getfT (s_getf (C := er_16) (T := et_16) (N := 5) (ref := "PlateroomprinterModel$Run") (index := 25) (ci := 16) (k := 0) hq_91 ho_91 ⟨rfl, by decide, ei_16, r_m_9_89, .inl rfl⟩ (by decide +kernel) rfl : e_Sn 91 1 (o_getf (e_f1 16 0) 4)) t_91_4
noncomputable def n_91_0 : e_Y := u_ld f_okA f_l0 n_91_1
theorem t_91_0 : e_Sn 91 0 (e_un n_91_0) := u_ldAT f_l0_eq (s_aload (i := .aload_n 0) (len := 1) hq_91 (by decide +kernel) rfl (.inr ⟨0, rfl, rfl, rfl⟩) : e_Sn 91 0 (o_load e_okR 0 1)) t_91_1
noncomputable def e_tb_91 : e_X := (e_br 461 (e_lf 0 (e_un n_91_0)) (e_lf 461 (e_un n_91_461)))
theorem e_tk_91 : e_Tb 91 e_tb_91 := (e_brT (e_lfT t_91_0) (e_lfT t_91_461))
theorem hq_89 : (e_ml[89]?).map (·.2.1) = some prog_20_method_17_code := Eq.trans (congrArg (Option.map (fun e => e.2.1)) hy_89) rfl
theorem ho_89 : (e_ml[89]?).map (·.1.cls) = some "PlateroomprinterModel$Run" := Eq.trans (congrArg (Option.map (fun e => e.1.cls)) hy_89) rfl
theorem hr_89 : (e_ml[89]?).map (·.2.2.2) = some none := Eq.trans (congrArg (Option.map (fun e => e.2.2.2)) hy_89) rfl
noncomputable def n_89_61 : e_Y := u_retV
theorem t_89_61 : e_Sn 89 61 (e_un n_89_61) := u_retVT (s_vret hq_89 hr_89 (by decide +kernel) : e_Sn 89 61 (o_retv))
noncomputable def n_89_58 : e_Y := u_callV 16 91 8 27 2 n_91_0 n_89_61
theorem t_89_58 : e_Sn 89 58 (e_un n_89_58) := u_callVT rfl (s_callV (ci := 16) (C := er_16) (T := et_16) (N := 5) (index := 197) hq_89 ho_89 hy_91 hp_91 hc_91 hi_91 hd_91 (r_k10 (List.mem_of_getElem? (i := 131) (by decide +kernel))) hs_91 (List.mem_of_getElem? (i := 31) (by decide +kernel)) rfl (by decide +kernel) rfl : e_Sn 89 58 (o_callV (e_s1 16 91 8) 2 61)) t_91_0 t_89_61
noncomputable def n_89_57 : e_Y := u_ld f_okI f_l1 n_89_58
theorem t_89_57 : e_Sn 89 57 (e_un n_89_57) := u_ldIT f_l1_eq (s_iload (i := .iload_n 1) (len := 1) hq_89 (by decide +kernel) rfl (.inr ⟨1, rfl, rfl, rfl⟩) : e_Sn 89 57 (o_load e_okI 1 58)) t_89_58
noncomputable def n_89_56 : e_Y := u_ld f_okA f_l0 n_89_57
theorem t_89_56 : e_Sn 89 56 (e_un n_89_56) := u_ldAT f_l0_eq (s_aload (i := .aload_n 0) (len := 1) hq_89 (by decide +kernel) rfl (.inr ⟨0, rfl, rfl, rfl⟩) : e_Sn 89 56 (o_load e_okR 0 57)) t_89_57
noncomputable def n_89_45 : e_Y := u_jmp y_ge (u_old2 (o_clt 48 56) 48 (u_at 48) n_89_56) (u_at 48) n_89_56
theorem t_89_45 : e_Sn 89 45 (e_un n_89_45) := u_cltT rfl (s_cge (off := (11)) hq_89 (by decide +kernel) rfl rfl : e_Sn 89 45 (o_clt 48 56)) u_atT t_89_56
noncomputable def n_89_43 : e_Y := u_push (.inl 2147483683) n_89_45
theorem t_89_43 : e_Sn 89 43 (e_un n_89_43) := u_pushT (s_bipush (n := (35)) hq_89 (by decide +kernel) rfl ⟨by decide +kernel, by decide +kernel⟩ : e_Sn 89 43 (o_push (.inl 2147483683) 45)) t_89_45
noncomputable def n_89_42 : e_Y := u_ld f_okI f_l1 n_89_43
theorem t_89_42 : e_Sn 89 42 (e_un n_89_42) := u_ldIT f_l1_eq (s_iload (i := .iload_n 1) (len := 1) hq_89 (by decide +kernel) rfl (.inr ⟨1, rfl, rfl, rfl⟩) : e_Sn 89 42 (o_load e_okI 1 43)) t_89_43
noncomputable def n_89_31 : e_Y := u_jmp y_ge (u_old2 (o_clt 34 42) 34 (u_at 34) n_89_42) (u_at 34) n_89_42
theorem t_89_31 : e_Sn 89 31 (e_un n_89_31) := u_cltT rfl (s_cge (off := (11)) hq_89 (by decide +kernel) rfl rfl : e_Sn 89 31 (o_clt 34 42)) u_atT t_89_42
noncomputable def n_89_29 : e_Y := u_push (.inl 2147483675) n_89_31
theorem t_89_29 : e_Sn 89 29 (e_un n_89_29) := u_pushT (s_bipush (n := (27)) hq_89 (by decide +kernel) rfl ⟨by decide +kernel, by decide +kernel⟩ : e_Sn 89 29 (o_push (.inl 2147483675) 31)) t_89_31
noncomputable def n_89_28 : e_Y := u_ld f_okI f_l1 n_89_29
theorem t_89_28 : e_Sn 89 28 (e_un n_89_28) := u_ldIT f_l1_eq (s_iload (i := .iload_n 1) (len := 1) hq_89 (by decide +kernel) rfl (.inr ⟨1, rfl, rfl, rfl⟩) : e_Sn 89 28 (o_load e_okI 1 29)) t_89_29
noncomputable def n_89_25 : e_Y := n_89_61
theorem t_89_25 : e_Sn 89 25 (e_un n_89_25) := u_gotoT (s_goto (off := (36)) hq_89 (by decide +kernel) rfl : e_Sn 89 25 (o_goto 61)) t_89_61
noncomputable def n_89_22 : e_Y := u_callV 16 83 14 33 2 n_83_0 n_89_25
theorem t_89_22 : e_Sn 89 22 (e_un n_89_22) := u_callVT rfl (s_callV (ci := 16) (C := er_16) (T := et_16) (N := 5) (index := 188) hq_89 ho_89 hy_83 hp_83 hc_83 hi_83 hd_83 (r_k9 (List.mem_of_getElem? (i := 222) (by decide +kernel))) hs_83 (List.mem_of_getElem? (i := 27) (by decide +kernel)) rfl (by decide +kernel) rfl : e_Sn 89 22 (o_callV (e_s1 16 83 14) 2 25)) t_83_0 t_89_25
noncomputable def n_89_21 : e_Y := u_ld f_okI f_l1 n_89_22
theorem t_89_21 : e_Sn 89 21 (e_un n_89_21) := u_ldIT f_l1_eq (s_iload (i := .iload_n 1) (len := 1) hq_89 (by decide +kernel) rfl (.inr ⟨1, rfl, rfl, rfl⟩) : e_Sn 89 21 (o_load e_okI 1 22)) t_89_22
noncomputable def n_89_20 : e_Y := u_ld f_okA f_l0 n_89_21
theorem t_89_20 : e_Sn 89 20 (e_un n_89_20) := u_ldAT f_l0_eq (s_aload (i := .aload_n 0) (len := 1) hq_89 (by decide +kernel) rfl (.inr ⟨0, rfl, rfl, rfl⟩) : e_Sn 89 20 (o_load e_okR 0 21)) t_89_21
noncomputable def n_89_17 : e_Y := u_jmp y_ge (u_old2 (o_clt 20 28) 20 n_89_20 n_89_28) n_89_20 n_89_28
theorem t_89_17 : e_Sn 89 17 (e_un n_89_17) := u_cltT rfl (s_cge (off := (11)) hq_89 (by decide +kernel) rfl rfl : e_Sn 89 17 (o_clt 20 28)) t_89_20 t_89_28
noncomputable def n_89_15 : e_Y := u_push (.inl 2147483669) n_89_17
theorem t_89_15 : e_Sn 89 15 (e_un n_89_15) := u_pushT (s_bipush (n := (21)) hq_89 (by decide +kernel) rfl ⟨by decide +kernel, by decide +kernel⟩ : e_Sn 89 15 (o_push (.inl 2147483669) 17)) t_89_17
noncomputable def n_89_14 : e_Y := u_ld f_okI f_l1 n_89_15
theorem t_89_14 : e_Sn 89 14 (e_un n_89_14) := u_ldIT f_l1_eq (s_iload (i := .iload_n 1) (len := 1) hq_89 (by decide +kernel) rfl (.inr ⟨1, rfl, rfl, rfl⟩) : e_Sn 89 14 (o_load e_okI 1 15)) t_89_15
noncomputable def n_89_3 : e_Y := u_jmp y_ge (u_old2 (o_clt 6 14) 6 (u_at 6) n_89_14) (u_at 6) n_89_14
theorem t_89_3 : e_Sn 89 3 (e_un n_89_3) := u_cltT rfl (s_cge (off := (11)) hq_89 (by decide +kernel) rfl rfl : e_Sn 89 3 (o_clt 6 14)) u_atT t_89_14
noncomputable def n_89_1 : e_Y := u_push (.inl 2147483657) n_89_3
theorem t_89_1 : e_Sn 89 1 (e_un n_89_1) := u_pushT (s_bipush (n := (9)) hq_89 (by decide +kernel) rfl ⟨by decide +kernel, by decide +kernel⟩ : e_Sn 89 1 (o_push (.inl 2147483657) 3)) t_89_3
noncomputable def n_89_0 : e_Y := u_ld f_okI f_l1 n_89_1
theorem t_89_0 : e_Sn 89 0 (e_un n_89_0) := u_ldIT f_l1_eq (s_iload (i := .iload_n 1) (len := 1) hq_89 (by decide +kernel) rfl (.inr ⟨1, rfl, rfl, rfl⟩) : e_Sn 89 0 (o_load e_okI 1 1)) t_89_1
noncomputable def e_tb_89 : e_X := (e_lf 0 (e_un n_89_0))
theorem e_tk_89 : e_Tb 89 e_tb_89 := (e_lfT t_89_0)
theorem hq_74 : (e_ml[74]?).map (·.2.1) = some prog_16_method_1_code := Eq.trans (congrArg (Option.map (fun e => e.2.1)) hy_74) rfl
theorem ho_74 : (e_ml[74]?).map (·.1.cls) = some "PlateroomprinterModel$Item" := Eq.trans (congrArg (Option.map (fun e => e.1.cls)) hy_74) rfl
theorem hr_74 : (e_ml[74]?).map (·.2.2.2) = some none := Eq.trans (congrArg (Option.map (fun e => e.2.2.2)) hy_74) rfl
noncomputable def n_74_19 : e_Y := u_retV
theorem t_74_19 : e_Sn 74 19 (e_un n_74_19) := u_retVT (s_vret hq_74 hr_74 (by decide +kernel) : e_Sn 74 19 (o_retv))
noncomputable def n_74_16 : e_Y := u_putf 13 2 f_okA (u_old (o_putf (e_f1 13 2) e_okR 19) n_74_19) n_74_19
theorem t_74_16 : e_Sn 74 16 (e_un n_74_16) := u_putfT (fun _ => f_okA_eq) (s_putf (ty0 := ey_13) (ok := e_okR) (C := er_13) (T := et_13) (N := 3) (ref := "PlateroomprinterModel$Item") (index := 16) (ci := 13) (k := 2) hq_74 ho_74 ⟨rfl, by decide, ei_13, (r_k9 (List.mem_of_getElem? (i := 179) (by decide +kernel))), .inl rfl⟩ eo_13 en_13 e_oksR (.inr ⟨rfl, rfl, rfl⟩) (by decide +kernel) rfl : e_Sn 74 16 (o_putf (e_f1 13 2) e_okR 19)) t_74_19
noncomputable def n_74_15 : e_Y := u_ld f_okA f_l3 n_74_16
theorem t_74_15 : e_Sn 74 15 (e_un n_74_15) := u_ldAT f_l3_eq (s_aload (i := .aload_n 3) (len := 1) hq_74 (by decide +kernel) rfl (.inr ⟨3, rfl, rfl, rfl⟩) : e_Sn 74 15 (o_load e_okR 3 16)) t_74_16
noncomputable def n_74_14 : e_Y := u_ld f_okA f_l0 n_74_15
theorem t_74_14 : e_Sn 74 14 (e_un n_74_14) := u_ldAT f_l0_eq (s_aload (i := .aload_n 0) (len := 1) hq_74 (by decide +kernel) rfl (.inr ⟨0, rfl, rfl, rfl⟩) : e_Sn 74 14 (o_load e_okR 0 15)) t_74_15
noncomputable def n_74_11 : e_Y := u_putf 13 1 f_okI (u_old (o_putf (e_f1 13 1) e_okI 14) n_74_14) n_74_14
theorem t_74_11 : e_Sn 74 11 (e_un n_74_11) := u_putfT (fun _ => f_okI_eq) (s_putf (ty0 := ey_13) (ok := e_okI) (C := er_13) (T := et_13) (N := 3) (ref := "PlateroomprinterModel$Item") (index := 13) (ci := 13) (k := 1) hq_74 ho_74 ⟨rfl, by decide, ei_13, (r_k9 (List.mem_of_getElem? (i := 177) (by decide +kernel))), .inl rfl⟩ eo_13 en_13 e_oksI (.inr ⟨rfl, rfl, rfl⟩) (by decide +kernel) rfl : e_Sn 74 11 (o_putf (e_f1 13 1) e_okI 14)) t_74_14
noncomputable def n_74_10 : e_Y := u_ld f_okI f_l2 n_74_11
theorem t_74_10 : e_Sn 74 10 (e_un n_74_10) := u_ldIT f_l2_eq (s_iload (i := .iload_n 2) (len := 1) hq_74 (by decide +kernel) rfl (.inr ⟨2, rfl, rfl, rfl⟩) : e_Sn 74 10 (o_load e_okI 2 11)) t_74_11
noncomputable def n_74_9 : e_Y := u_ld f_okA f_l0 n_74_10
theorem t_74_9 : e_Sn 74 9 (e_un n_74_9) := u_ldAT f_l0_eq (s_aload (i := .aload_n 0) (len := 1) hq_74 (by decide +kernel) rfl (.inr ⟨0, rfl, rfl, rfl⟩) : e_Sn 74 9 (o_load e_okR 0 10)) t_74_10
noncomputable def n_74_6 : e_Y := u_putf 13 0 f_okI (u_old (o_putf (e_f1 13 0) e_okI 9) n_74_9) n_74_9
theorem t_74_6 : e_Sn 74 6 (e_un n_74_6) := u_putfT (fun _ => f_okI_eq) (s_putf (ty0 := ey_13) (ok := e_okI) (C := er_13) (T := et_13) (N := 3) (ref := "PlateroomprinterModel$Item") (index := 7) (ci := 13) (k := 0) hq_74 ho_74 ⟨rfl, by decide, ei_13, (r_k9 (List.mem_of_getElem? (i := 175) (by decide +kernel))), .inl rfl⟩ eo_13 en_13 e_oksI (.inr ⟨rfl, rfl, rfl⟩) (by decide +kernel) rfl : e_Sn 74 6 (o_putf (e_f1 13 0) e_okI 9)) t_74_9
noncomputable def n_74_5 : e_Y := u_ld f_okI f_l1 n_74_6
theorem t_74_5 : e_Sn 74 5 (e_un n_74_5) := u_ldIT f_l1_eq (s_iload (i := .iload_n 1) (len := 1) hq_74 (by decide +kernel) rfl (.inr ⟨1, rfl, rfl, rfl⟩) : e_Sn 74 5 (o_load e_okI 1 6)) t_74_6
noncomputable def n_74_4 : e_Y := u_ld f_okA f_l0 n_74_5
theorem t_74_4 : e_Sn 74 4 (e_un n_74_4) := u_ldAT f_l0_eq (s_aload (i := .aload_n 0) (len := 1) hq_74 (by decide +kernel) rfl (.inr ⟨0, rfl, rfl, rfl⟩) : e_Sn 74 4 (o_load e_okR 0 5)) t_74_5
noncomputable def n_74_1 : e_Y := u_tab (o_oinit 4)
theorem t_74_1 : e_Sn 74 1 (e_un n_74_1) := u_tabT (s_oinit (idx := 1) hq_74 ho_74 (r_k9 (List.mem_of_getElem? (i := 174) (by decide +kernel))) r_m_1_53 r_m_1_54 (by decide +kernel) rfl : e_Sn 74 1 (o_oinit 4))
noncomputable def n_74_0 : e_Y := u_ld f_okA f_l0 n_74_1
theorem t_74_0 : e_Sn 74 0 (e_un n_74_0) := u_ldAT f_l0_eq (s_aload (i := .aload_n 0) (len := 1) hq_74 (by decide +kernel) rfl (.inr ⟨0, rfl, rfl, rfl⟩) : e_Sn 74 0 (o_load e_okR 0 1)) t_74_1
noncomputable def e_tb_74 : e_X := (e_br 4 (e_lf 0 (e_un n_74_0)) (e_lf 4 (e_un n_74_4)))
theorem e_tk_74 : e_Tb 74 e_tb_74 := (e_brT (e_lfT t_74_0) (e_lfT t_74_4))
theorem hq_92 : (e_ml[92]?).map (·.2.1) = some prog_20_method_16_code := Eq.trans (congrArg (Option.map (fun e => e.2.1)) hy_92) rfl
theorem ho_92 : (e_ml[92]?).map (·.1.cls) = some "PlateroomprinterModel$Run" := Eq.trans (congrArg (Option.map (fun e => e.1.cls)) hy_92) rfl
theorem hr_92 : (e_ml[92]?).map (·.2.2.2) = some (some (.object "PlateroomprinterModel$Item")) := Eq.trans (congrArg (Option.map (fun e => e.2.2.2)) hy_92) rfl
noncomputable def n_92_103 : e_Y := (u_at 10)
theorem t_92_103 : e_Sn 92 103 (e_un n_92_103) := u_gotoT (s_goto (off := (-93)) hq_92 (by decide +kernel) rfl : e_Sn 92 103 (o_goto 10)) u_atT
noncomputable def n_92_102 : e_Y := u_pop n_92_103
theorem t_92_102 : e_Sn 92 102 (e_un n_92_102) := u_popT (s_pop hq_92 (by decide +kernel) rfl : e_Sn 92 102 (o_pop 103)) t_92_103
noncomputable def n_92_99 : e_Y := u_callV 19 106 2 21 2 n_106_0 n_92_102
theorem t_92_99 : e_Sn 92 99 (e_un n_92_99) := u_callVT rfl (s_callV (ci := 19) (C := er_19) (T := et_19) (N := 3) (index := 34) hq_92 ho_92 hy_106 hp_106 hc_106 hi_106 hd_106 r_m_9_88 hs_106 r_m_8_5 rfl (by decide +kernel) rfl : e_Sn 92 99 (o_callV (e_s1 19 106 2) 2 102)) t_106_0 t_92_102
noncomputable def n_92_97 : e_Y := u_ld f_okA f_l4 n_92_99
theorem t_92_97 : e_Sn 92 97 (e_un n_92_97) := u_ldAT f_l4_eq (s_aload (i := .aload 4) (len := 2) hq_92 (by decide +kernel) rfl (.inl ⟨rfl, rfl⟩) : e_Sn 92 97 (o_load e_okR 4 99)) t_92_99
noncomputable def n_92_96 : e_Y := u_ld f_okA f_l2 n_92_97
theorem t_92_96 : e_Sn 92 96 (e_un n_92_96) := u_ldAT f_l2_eq (s_aload (i := .aload_n 2) (len := 1) hq_92 (by decide +kernel) rfl (.inr ⟨2, rfl, rfl, rfl⟩) : e_Sn 92 96 (o_load e_okR 2 97)) t_92_97
noncomputable def n_92_95 : e_Y := u_retA
theorem t_92_95 : e_Sn 92 95 (e_un n_92_95) := u_retAT (s_aret (.inl ⟨_, rfl⟩) hq_92 hr_92 (by decide +kernel) : e_Sn 92 95 (o_ret e_okR))
noncomputable def n_92_92 : e_Y := u_callI 74 4 23 4 n_74_0 n_92_95
theorem t_92_92 : e_Sn 92 92 (e_un n_92_92) := u_callIT rfl (s_callI (index := 135) hq_92 ho_92 hy_74 hp_74 hc_74 hi_74 hd_74 r_m_9_171 rfl rfl hs_74 (by decide +kernel) rfl : e_Sn 92 92 (o_callI 74 4 4 95)) t_74_0 t_92_95
noncomputable def n_92_91 : e_Y := u_ld f_okA f_l2 n_92_92
theorem t_92_91 : e_Sn 92 91 (e_un n_92_91) := u_ldAT f_l2_eq (s_aload (i := .aload_n 2) (len := 1) hq_92 (by decide +kernel) rfl (.inr ⟨2, rfl, rfl, rfl⟩) : e_Sn 92 91 (o_load e_okR 2 92)) t_92_92
noncomputable def n_92_90 : e_Y := u_push (.inl 2147483648) n_92_91
theorem t_92_90 : e_Sn 92 90 (e_un n_92_90) := u_pushT (s_iconst (n := (0)) hq_92 (by decide +kernel) rfl ⟨by decide +kernel, by decide +kernel⟩ : e_Sn 92 90 (o_push (.inl 2147483648) 91)) t_92_91
noncomputable def n_92_89 : e_Y := u_push (.inl 2147483650) n_92_90
theorem t_92_89 : e_Sn 92 89 (e_un n_92_89) := u_pushT (s_iconst (n := (2)) hq_92 (by decide +kernel) rfl ⟨by decide +kernel, by decide +kernel⟩ : e_Sn 92 89 (o_push (.inl 2147483650) 90)) t_92_90
noncomputable def n_92_88 : e_Y := u_old (o_dup 89) n_92_89
theorem t_92_88 : e_Sn 92 88 (e_un n_92_88) := u_oldT (s_dup hq_92 (by decide +kernel) rfl : e_Sn 92 88 (o_dup 89)) t_92_89 e_cg_dup
noncomputable def n_92_85 : e_Y := u_tab (o_new 13 3 ef_13 88)
theorem t_92_85 : e_Sn 92 85 (e_un n_92_85) := u_tabT (s_new (index := 133) (ci := 13) (N := 3) (C := er_13) (T := et_13) (ty0 := ey_13) (fv := eg_13) hq_92 ho_92 rfl ei_13 eo_13 r_m_9_169 r_m_9_170 r_m_1_36 eh_13 rfl (e_newrel ek_13) (by decide +kernel) rfl : e_Sn 92 85 (o_new 13 3 ef_13 88))
noncomputable def n_92_82 : e_Y := u_if y_ne0 (u_old2 (o_ifeq 85 96) 85 n_92_85 n_92_96) n_92_85 n_92_96
theorem t_92_82 : e_Sn 92 82 (e_un n_92_82) := u_ifeqT rfl (s_ifne (off := (14)) hq_92 (by decide +kernel) rfl rfl : e_Sn 92 82 (o_ifeq 85 96)) t_92_85 t_92_96
noncomputable def n_92_81 : e_Y := u_ld f_okI f_l3 n_92_82
theorem t_92_81 : e_Sn 92 81 (e_un n_92_81) := u_ldIT f_l3_eq (s_iload (i := .iload_n 3) (len := 1) hq_92 (by decide +kernel) rfl (.inr ⟨3, rfl, rfl, rfl⟩) : e_Sn 92 81 (o_load e_okI 3 82)) t_92_82
noncomputable def n_92_80 : e_Y := u_st f_okI f_s3 n_92_81
theorem t_92_80 : e_Sn 92 80 (e_un n_92_80) := u_stIT (fun _ _ _ => f_s3_eq) (s_istore (i := .istore_n 3) (len := 1) hq_92 (by decide +kernel) rfl (.inr ⟨3, rfl, rfl, rfl⟩) : e_Sn 92 80 (o_store e_okI 3 81)) t_92_81
noncomputable def n_92_79 : e_Y := u_bin a_iadd (u_old (o_iadd 80) n_92_80) n_92_80
theorem t_92_79 : e_Sn 92 79 (e_un n_92_79) := u_iaddT (s_iadd hq_92 (by decide +kernel) rfl : e_Sn 92 79 (o_iadd 80)) t_92_80
noncomputable def n_92_78 : e_Y := u_push (.inl 2147483648) n_92_79
theorem t_92_78 : e_Sn 92 78 (e_un n_92_78) := u_pushT (s_iconst (n := (0)) hq_92 (by decide +kernel) rfl ⟨by decide +kernel, by decide +kernel⟩ : e_Sn 92 78 (o_push (.inl 2147483648) 79)) t_92_79
noncomputable def n_92_75 : e_Y := n_92_79
theorem t_92_75 : e_Sn 92 75 (e_un n_92_75) := u_gotoT (s_goto (off := (4)) hq_92 (by decide +kernel) rfl : e_Sn 92 75 (o_goto 79)) t_92_79
noncomputable def n_92_74 : e_Y := u_push (.inl 2147483647) n_92_75
theorem t_92_74 : e_Sn 92 74 (e_un n_92_74) := u_pushT (s_iconst (n := (-1)) hq_92 (by decide +kernel) rfl ⟨by decide +kernel, by decide +kernel⟩ : e_Sn 92 74 (o_push (.inl 2147483647) 75)) t_92_75
noncomputable def n_92_71 : e_Y := u_jmp y_ne (u_old2 (o_ceq 74 78) 74 n_92_74 n_92_78) n_92_74 n_92_78
theorem t_92_71 : e_Sn 92 71 (e_un n_92_71) := u_ceqT rfl (s_cne (off := (7)) hq_92 (by decide +kernel) rfl rfl : e_Sn 92 71 (o_ceq 74 78)) t_92_74 t_92_78
noncomputable def n_92_70 : e_Y := u_push (.inl 2147483653) n_92_71
theorem t_92_70 : e_Sn 92 70 (e_un n_92_70) := u_pushT (s_iconst (n := (5)) hq_92 (by decide +kernel) rfl ⟨by decide +kernel, by decide +kernel⟩ : e_Sn 92 70 (o_push (.inl 2147483653) 71)) t_92_71
noncomputable def n_92_69 : e_Y := u_ald 0 (u_old (o_ald e_fcs 70) n_92_70) n_92_70
theorem t_92_69 : e_Sn 92 69 (e_un n_92_69) := u_aldT (s_iald hq_92 (by decide +kernel) rfl : e_Sn 92 69 (o_ald e_fcs 70)) t_92_70
noncomputable def n_92_68 : e_Y := u_push (.inl 2147483648) n_92_69
theorem t_92_68 : e_Sn 92 68 (e_un n_92_68) := u_pushT (s_iconst (n := (0)) hq_92 (by decide +kernel) rfl ⟨by decide +kernel, by decide +kernel⟩ : e_Sn 92 68 (o_push (.inl 2147483648) 69)) t_92_69
noncomputable def n_92_66 : e_Y := u_ld f_okA f_l4 n_92_68
theorem t_92_66 : e_Sn 92 66 (e_un n_92_66) := u_ldAT f_l4_eq (s_aload (i := .aload 4) (len := 2) hq_92 (by decide +kernel) rfl (.inl ⟨rfl, rfl⟩) : e_Sn 92 66 (o_load e_okR 4 68)) t_92_68
noncomputable def n_92_63 : e_Y := n_92_79
theorem t_92_63 : e_Sn 92 63 (e_un n_92_63) := u_gotoT (s_goto (off := (16)) hq_92 (by decide +kernel) rfl : e_Sn 92 63 (o_goto 79)) t_92_79
noncomputable def n_92_62 : e_Y := u_push (.inl 2147483649) n_92_63
theorem t_92_62 : e_Sn 92 62 (e_un n_92_62) := u_pushT (s_iconst (n := (1)) hq_92 (by decide +kernel) rfl ⟨by decide +kernel, by decide +kernel⟩ : e_Sn 92 62 (o_push (.inl 2147483649) 63)) t_92_63
noncomputable def n_92_59 : e_Y := u_jmp y_ne (u_old2 (o_ceq 62 66) 62 n_92_62 n_92_66) n_92_62 n_92_66
theorem t_92_59 : e_Sn 92 59 (e_un n_92_59) := u_ceqT rfl (s_cne (off := (7)) hq_92 (by decide +kernel) rfl rfl : e_Sn 92 59 (o_ceq 62 66)) t_92_62 t_92_66
noncomputable def n_92_58 : e_Y := u_push (.inl 2147483652) n_92_59
theorem t_92_58 : e_Sn 92 58 (e_un n_92_58) := u_pushT (s_iconst (n := (4)) hq_92 (by decide +kernel) rfl ⟨by decide +kernel, by decide +kernel⟩ : e_Sn 92 58 (o_push (.inl 2147483652) 59)) t_92_59
noncomputable def n_92_57 : e_Y := u_ald 0 (u_old (o_ald e_fcs 58) n_92_58) n_92_58
theorem t_92_57 : e_Sn 92 57 (e_un n_92_57) := u_aldT (s_iald hq_92 (by decide +kernel) rfl : e_Sn 92 57 (o_ald e_fcs 58)) t_92_58
noncomputable def n_92_56 : e_Y := u_push (.inl 2147483648) n_92_57
theorem t_92_56 : e_Sn 92 56 (e_un n_92_56) := u_pushT (s_iconst (n := (0)) hq_92 (by decide +kernel) rfl ⟨by decide +kernel, by decide +kernel⟩ : e_Sn 92 56 (o_push (.inl 2147483648) 57)) t_92_57
noncomputable def n_92_54 : e_Y := u_ld f_okA f_l4 n_92_56
theorem t_92_54 : e_Sn 92 54 (e_un n_92_54) := u_ldAT f_l4_eq (s_aload (i := .aload 4) (len := 2) hq_92 (by decide +kernel) rfl (.inl ⟨rfl, rfl⟩) : e_Sn 92 54 (o_load e_okR 4 56)) t_92_56
noncomputable def n_92_53 : e_Y := u_ld f_okI f_l3 n_92_54
theorem t_92_53 : e_Sn 92 53 (e_un n_92_53) := u_ldIT f_l3_eq (s_iload (i := .iload_n 3) (len := 1) hq_92 (by decide +kernel) rfl (.inr ⟨3, rfl, rfl, rfl⟩) : e_Sn 92 53 (o_load e_okI 3 54)) t_92_54
noncomputable def n_92_50 : e_Y := u_putf 15 1 f_okI (u_old (o_putf (e_f1 15 1) e_okI 53) n_92_53) n_92_53
theorem t_92_50 : e_Sn 92 50 (e_un n_92_50) := u_putfT (fun _ => f_okI_eq) (s_putf (ty0 := ey_15) (ok := e_okI) (C := er_15) (T := et_15) (N := 8) (ref := "PlateroomprinterModel$Row") (index := 50) (ci := 15) (k := 1) hq_92 ho_92 ⟨rfl, by decide, ei_15, r_m_9_64, .inl rfl⟩ eo_15 en_15 e_oksI (.inl rfl) (by decide +kernel) rfl : e_Sn 92 50 (o_putf (e_f1 15 1) e_okI 53)) t_92_53
noncomputable def n_92_49 : e_Y := u_bin a_iadd (u_old (o_iadd 50) n_92_50) n_92_50
theorem t_92_49 : e_Sn 92 49 (e_un n_92_49) := u_iaddT (s_iadd hq_92 (by decide +kernel) rfl : e_Sn 92 49 (o_iadd 50)) t_92_50
noncomputable def n_92_48 : e_Y := u_push (.inl 2147483649) n_92_49
theorem t_92_48 : e_Sn 92 48 (e_un n_92_48) := u_pushT (s_iconst (n := (1)) hq_92 (by decide +kernel) rfl ⟨by decide +kernel, by decide +kernel⟩ : e_Sn 92 48 (o_push (.inl 2147483649) 49)) t_92_49
noncomputable def n_92_45 : e_Y := u_getf 15 1 (u_old (o_getf (e_f1 15 1) 48) n_92_48) n_92_48
theorem t_92_45 : e_Sn 92 45 (e_un n_92_45) := u_getfT (s_getf (C := er_15) (T := et_15) (N := 8) (ref := "PlateroomprinterModel$Row") (index := 50) (ci := 15) (k := 1) hq_92 ho_92 ⟨rfl, by decide, ei_15, r_m_9_64, .inl rfl⟩ (by decide +kernel) rfl : e_Sn 92 45 (o_getf (e_f1 15 1) 48)) t_92_48
noncomputable def n_92_44 : e_Y := u_old (o_dup 45) n_92_45
theorem t_92_44 : e_Sn 92 44 (e_un n_92_44) := u_oldT (s_dup hq_92 (by decide +kernel) rfl : e_Sn 92 44 (o_dup 45)) t_92_45 e_cg_dup
noncomputable def n_92_43 : e_Y := u_ld f_okA f_l1 n_92_44
theorem t_92_43 : e_Sn 92 43 (e_un n_92_43) := u_ldAT f_l1_eq (s_aload (i := .aload_n 1) (len := 1) hq_92 (by decide +kernel) rfl (.inr ⟨1, rfl, rfl, rfl⟩) : e_Sn 92 43 (o_load e_okR 1 44)) t_92_44
noncomputable def n_92_41 : e_Y := u_st f_okA f_s4 n_92_43
theorem t_92_41 : e_Sn 92 41 (e_un n_92_41) := u_stAT (fun _ _ _ => f_s4_eq) (s_astore (i := .astore 4) (len := 2) hq_92 (by decide +kernel) rfl (.inl ⟨rfl, rfl⟩) : e_Sn 92 41 (o_store e_okR 4 43)) t_92_43
noncomputable def n_92_38 : e_Y := u_old (o_cast 100 41) n_92_41
theorem t_92_38 : e_Sn 92 38 (e_un n_92_38) := u_oldT (s_cast (index := 63) hq_92 ho_92 r_m_9_193 (.inr ⟨rfl, rfl⟩) (by decide +kernel) rfl : e_Sn 92 38 (o_cast 100 41)) t_92_41 (e_cg_cast 100)
noncomputable def n_92_35 : e_Y := u_callV 19 110 2 21 2 n_110_0 n_92_38
theorem t_92_35 : e_Sn 92 35 (e_un n_92_35) := u_callVT rfl (s_callV (ci := 19) (C := er_19) (T := et_19) (N := 3) (index := 42) hq_92 ho_92 hy_110 hp_110 hc_110 hi_110 hd_110 r_m_9_121 hs_110 r_m_8_230 rfl (by decide +kernel) rfl : e_Sn 92 35 (o_callV (e_s1 19 110 2) 2 38)) t_110_0 t_92_38
noncomputable def n_92_32 : e_Y := u_getf 15 1 (u_old (o_getf (e_f1 15 1) 35) n_92_35) n_92_35
theorem t_92_32 : e_Sn 92 32 (e_un n_92_32) := u_getfT (s_getf (C := er_15) (T := et_15) (N := 8) (ref := "PlateroomprinterModel$Row") (index := 50) (ci := 15) (k := 1) hq_92 ho_92 ⟨rfl, by decide, ei_15, r_m_9_64, .inl rfl⟩ (by decide +kernel) rfl : e_Sn 92 32 (o_getf (e_f1 15 1) 35)) t_92_35
noncomputable def n_92_31 : e_Y := u_ld f_okA f_l1 n_92_32
theorem t_92_31 : e_Sn 92 31 (e_un n_92_31) := u_ldAT f_l1_eq (s_aload (i := .aload_n 1) (len := 1) hq_92 (by decide +kernel) rfl (.inr ⟨1, rfl, rfl, rfl⟩) : e_Sn 92 31 (o_load e_okR 1 32)) t_92_32
noncomputable def n_92_28 : e_Y := u_getf 15 0 (u_old (o_getf (e_f1 15 0) 31) n_92_31) n_92_31
theorem t_92_28 : e_Sn 92 28 (e_un n_92_28) := u_getfT (s_getf (C := er_15) (T := et_15) (N := 8) (ref := "PlateroomprinterModel$Row") (index := 60) (ci := 15) (k := 0) hq_92 ho_92 ⟨rfl, by decide, ei_15, r_m_9_62, .inl rfl⟩ (by decide +kernel) rfl : e_Sn 92 28 (o_getf (e_f1 15 0) 31)) t_92_31
noncomputable def n_92_27 : e_Y := u_ld f_okA f_l1 n_92_28
theorem t_92_27 : e_Sn 92 27 (e_un n_92_27) := u_ldAT f_l1_eq (s_aload (i := .aload_n 1) (len := 1) hq_92 (by decide +kernel) rfl (.inr ⟨1, rfl, rfl, rfl⟩) : e_Sn 92 27 (o_load e_okR 1 28)) t_92_28
noncomputable def n_92_24 : e_Y := u_callS 68 2 21 2 n_68_0 n_92_27
theorem t_92_24 : e_Sn 92 24 (e_un n_92_24) := u_callST rfl (s_callSN (host := "PlateroomprinterModel") (index := 73) hq_92 ho_92 hy_68 hp_68 hc_68 hi_68 hd_68 r_m_9_142 hs_68 (by decide +kernel) rfl : e_Sn 92 24 (o_callS 68 2 2 27)) t_68_0 t_92_27
noncomputable def n_92_22 : e_Y := u_push (.inl 2147483654) n_92_24
theorem t_92_22 : e_Sn 92 22 (e_un n_92_22) := u_pushT (s_bipush (n := (6)) hq_92 (by decide +kernel) rfl ⟨by decide +kernel, by decide +kernel⟩ : e_Sn 92 22 (o_push (.inl 2147483654) 24)) t_92_24
noncomputable def n_92_18 : e_Y := n_92_22
theorem t_92_18 : e_Sn 92 18 (e_un n_92_18) := u_gotoT (s_goto (off := (4)) hq_92 (by decide +kernel) rfl : e_Sn 92 18 (o_goto 22)) t_92_22
noncomputable def n_92_17 : e_Y := u_push (.inl 2147483649) n_92_18
theorem t_92_17 : e_Sn 92 17 (e_un n_92_17) := u_pushT (s_iconst (n := (1)) hq_92 (by decide +kernel) rfl ⟨by decide +kernel, by decide +kernel⟩ : e_Sn 92 17 (o_push (.inl 2147483649) 18)) t_92_18
noncomputable def n_92_14 : e_Y := u_if y_ne0 (u_old2 (o_ifeq 17 21) 17 n_92_17 (u_at 21)) n_92_17 (u_at 21)
theorem t_92_14 : e_Sn 92 14 (e_un n_92_14) := u_ifeqT rfl (s_ifne (off := (7)) hq_92 (by decide +kernel) rfl rfl : e_Sn 92 14 (o_ifeq 17 21)) t_92_17 u_atT
noncomputable def n_92_11 : e_Y := u_callV 15 78 1 20 1 n_78_0 n_92_14
theorem t_92_11 : e_Sn 92 11 (e_un n_92_11) := u_callVT rfl (s_callV (ci := 15) (C := er_15) (T := et_15) (N := 8) (index := 84) hq_92 ho_92 hy_78 hp_78 hc_78 hi_78 hd_78 r_m_9_122 hs_78 r_m_9_124 rfl (by decide +kernel) rfl : e_Sn 92 11 (o_callV (e_s1 15 78 1) 1 14)) t_78_0 t_92_14
noncomputable def n_92_10 : e_Y := u_ld f_okA f_l1 n_92_11
theorem t_92_10 : e_Sn 92 10 (e_un n_92_10) := u_ldAT f_l1_eq (s_aload (i := .aload_n 1) (len := 1) hq_92 (by decide +kernel) rfl (.inr ⟨1, rfl, rfl, rfl⟩) : e_Sn 92 10 (o_load e_okR 1 11)) t_92_11
noncomputable def n_92_9 : e_Y := u_st f_okI f_s3 n_92_10
theorem t_92_9 : e_Sn 92 9 (e_un n_92_9) := u_stIT (fun _ _ _ => f_s3_eq) (s_istore (i := .istore_n 3) (len := 1) hq_92 (by decide +kernel) rfl (.inr ⟨3, rfl, rfl, rfl⟩) : e_Sn 92 9 (o_store e_okI 3 10)) t_92_10
noncomputable def n_92_8 : e_Y := u_push (.inl 2147483649) n_92_9
theorem t_92_8 : e_Sn 92 8 (e_un n_92_8) := u_pushT (s_iconst (n := (1)) hq_92 (by decide +kernel) rfl ⟨by decide +kernel, by decide +kernel⟩ : e_Sn 92 8 (o_push (.inl 2147483649) 9)) t_92_9
noncomputable def n_92_7 : e_Y := u_st f_okA f_s2 n_92_8
theorem t_92_7 : e_Sn 92 7 (e_un n_92_7) := u_stAT (fun _ _ _ => f_s2_eq) (s_astore (i := .astore_n 2) (len := 1) hq_92 (by decide +kernel) rfl (.inr ⟨2, rfl, rfl, rfl⟩) : e_Sn 92 7 (o_store e_okR 2 8)) t_92_8
noncomputable def n_92_4 : e_Y := u_callI 105 1 20 1 n_105_0 n_92_7
theorem t_92_4 : e_Sn 92 4 (e_un n_92_4) := u_callIT rfl (s_callI (index := 11) hq_92 ho_92 hy_105 hp_105 hc_105 hi_105 hd_105 r_m_9_54 rfl rfl hs_105 (by decide +kernel) rfl : e_Sn 92 4 (o_callI 105 1 1 7)) t_105_0 t_92_7
noncomputable def n_92_3 : e_Y := u_old (o_dup 4) n_92_4
theorem t_92_3 : e_Sn 92 3 (e_un n_92_3) := u_oldT (s_dup hq_92 (by decide +kernel) rfl : e_Sn 92 3 (o_dup 4)) t_92_4 e_cg_dup
noncomputable def n_92_0 : e_Y := u_tab (o_new 19 3 ef_19 3)
theorem t_92_0 : e_Sn 92 0 (e_un n_92_0) := u_tabT (s_new (index := 9) (ci := 19) (N := 3) (C := er_19) (T := et_19) (ty0 := ey_19) (fv := eg_19) hq_92 ho_92 rfl ei_19 eo_19 r_m_9_53 r_m_7_174 r_m_1_18 eh_19 rfl (e_newrel ek_19) (by decide +kernel) rfl : e_Sn 92 0 (o_new 19 3 ef_19 3))
noncomputable def e_tb_92 : e_X := (e_br 10 (e_br 3 (e_lf 0 (e_un n_92_0)) (e_lf 3 (e_un n_92_3))) (e_br 88 (e_lf 10 (e_un n_92_10)) (e_lf 88 (e_un n_92_88))))
theorem e_tk_92 : e_Tb 92 e_tb_92 := (e_brT (e_brT (e_lfT t_92_0) (e_lfT t_92_3)) (e_brT (e_lfT t_92_10) (e_lfT t_92_88)))
theorem hq_94 : (e_ml[94]?).map (·.2.1) = some prog_20_method_8_code := Eq.trans (congrArg (Option.map (fun e => e.2.1)) hy_94) rfl
theorem ho_94 : (e_ml[94]?).map (·.1.cls) = some "PlateroomprinterModel$Run" := Eq.trans (congrArg (Option.map (fun e => e.1.cls)) hy_94) rfl
theorem hr_94 : (e_ml[94]?).map (·.2.2.2) = some none := Eq.trans (congrArg (Option.map (fun e => e.2.2.2)) hy_94) rfl
noncomputable def n_94_37 : e_Y := u_retV
theorem t_94_37 : e_Sn 94 37 (e_un n_94_37) := u_retVT (s_vret hq_94 hr_94 (by decide +kernel) : e_Sn 94 37 (o_retv))
noncomputable def n_94_36 : e_Y := u_pop n_94_37
theorem t_94_36 : e_Sn 94 36 (e_un n_94_36) := u_popT (s_pop hq_94 (by decide +kernel) rfl : e_Sn 94 36 (o_pop 37)) t_94_37
noncomputable def n_94_33 : e_Y := u_callV 19 106 2 21 2 n_106_0 n_94_36
theorem t_94_33 : e_Sn 94 33 (e_un n_94_33) := u_callVT rfl (s_callV (ci := 19) (C := er_19) (T := et_19) (N := 3) (index := 34) hq_94 ho_94 hy_106 hp_106 hc_106 hi_106 hd_106 r_m_9_88 hs_106 r_m_8_5 rfl (by decide +kernel) rfl : e_Sn 94 33 (o_callV (e_s1 19 106 2) 2 36)) t_106_0 t_94_36
noncomputable def n_94_32 : e_Y := u_ld f_okA f_l1 n_94_33
theorem t_94_32 : e_Sn 94 32 (e_un n_94_32) := u_ldAT f_l1_eq (s_aload (i := .aload_n 1) (len := 1) hq_94 (by decide +kernel) rfl (.inr ⟨1, rfl, rfl, rfl⟩) : e_Sn 94 32 (o_load e_okR 1 33)) t_94_33
noncomputable def n_94_29 : e_Y := u_getf 14 0 (u_old (o_getf (e_f1 14 0) 32) n_94_32) n_94_32
theorem t_94_29 : e_Sn 94 29 (e_un n_94_29) := u_getfT (s_getf (C := er_14) (T := et_14) (N := 13) (ref := "PlateroomprinterModel$Machine") (index := 122) (ci := 14) (k := 0) hq_94 ho_94 ⟨rfl, by decide, ei_14, r_m_8_74, .inl rfl⟩ (by decide +kernel) rfl : e_Sn 94 29 (o_getf (e_f1 14 0) 32)) t_94_32
noncomputable def n_94_26 : e_Y := u_getf 16 0 (u_old (o_getf (e_f1 16 0) 29) n_94_29) n_94_29
theorem t_94_26 : e_Sn 94 26 (e_un n_94_26) := u_getfT (s_getf (C := er_16) (T := et_16) (N := 5) (ref := "PlateroomprinterModel$Run") (index := 25) (ci := 16) (k := 0) hq_94 ho_94 ⟨rfl, by decide, ei_16, r_m_9_89, .inl rfl⟩ (by decide +kernel) rfl : e_Sn 94 26 (o_getf (e_f1 16 0) 29)) t_94_29
noncomputable def n_94_25 : e_Y := u_ld f_okA f_l0 n_94_26
theorem t_94_25 : e_Sn 94 25 (e_un n_94_25) := u_ldAT f_l0_eq (s_aload (i := .aload_n 0) (len := 1) hq_94 (by decide +kernel) rfl (.inr ⟨0, rfl, rfl, rfl⟩) : e_Sn 94 25 (o_load e_okR 0 26)) t_94_26
noncomputable def n_94_22 : e_Y := u_callS 68 2 21 2 n_68_0 n_94_25
theorem t_94_22 : e_Sn 94 22 (e_un n_94_22) := u_callST rfl (s_callSN (host := "PlateroomprinterModel") (index := 73) hq_94 ho_94 hy_68 hp_68 hc_68 hi_68 hd_68 r_m_9_142 hs_68 (by decide +kernel) rfl : e_Sn 94 22 (o_callS 68 2 2 25)) t_68_0 t_94_25
noncomputable def n_94_20 : e_Y := u_push (.inl 2147483656) n_94_22
theorem t_94_20 : e_Sn 94 20 (e_un n_94_20) := u_pushT (s_bipush (n := (8)) hq_94 (by decide +kernel) rfl ⟨by decide +kernel, by decide +kernel⟩ : e_Sn 94 20 (o_push (.inl 2147483656) 22)) t_94_22
noncomputable def n_94_16 : e_Y := n_94_20
theorem t_94_16 : e_Sn 94 16 (e_un n_94_16) := u_gotoT (s_goto (off := (4)) hq_94 (by decide +kernel) rfl : e_Sn 94 16 (o_goto 20)) t_94_20
noncomputable def n_94_15 : e_Y := u_push (.inl 2147483649) n_94_16
theorem t_94_15 : e_Sn 94 15 (e_un n_94_15) := u_pushT (s_iconst (n := (1)) hq_94 (by decide +kernel) rfl ⟨by decide +kernel, by decide +kernel⟩ : e_Sn 94 15 (o_push (.inl 2147483649) 16)) t_94_16
noncomputable def n_94_12 : e_Y := u_jmp y_ge (u_old2 (o_clt 15 19) 15 n_94_15 (u_at 19)) n_94_15 (u_at 19)
theorem t_94_12 : e_Sn 94 12 (e_un n_94_12) := u_cltT rfl (s_cge (off := (7)) hq_94 (by decide +kernel) rfl rfl : e_Sn 94 12 (o_clt 15 19)) t_94_15 u_atT
noncomputable def n_94_10 : e_Y := u_push (.inl 2147483688) n_94_12
theorem t_94_10 : e_Sn 94 10 (e_un n_94_10) := u_pushT (s_bipush (n := (40)) hq_94 (by decide +kernel) rfl ⟨by decide +kernel, by decide +kernel⟩ : e_Sn 94 10 (o_push (.inl 2147483688) 12)) t_94_12
noncomputable def n_94_7 : e_Y := u_callV 19 116 1 20 1 n_116_0 n_94_10
theorem t_94_7 : e_Sn 94 7 (e_un n_94_7) := u_callVT rfl (s_callV (ci := 19) (C := er_19) (T := et_19) (N := 3) (index := 38) hq_94 ho_94 hy_116 hp_116 hc_116 hi_116 hd_116 r_m_9_120 hs_116 r_m_8_181 rfl (by decide +kernel) rfl : e_Sn 94 7 (o_callV (e_s1 19 116 1) 1 10)) t_116_0 t_94_10
noncomputable def n_94_4 : e_Y := u_getf 14 0 (u_old (o_getf (e_f1 14 0) 7) n_94_7) n_94_7
theorem t_94_4 : e_Sn 94 4 (e_un n_94_4) := u_getfT (s_getf (C := er_14) (T := et_14) (N := 13) (ref := "PlateroomprinterModel$Machine") (index := 122) (ci := 14) (k := 0) hq_94 ho_94 ⟨rfl, by decide, ei_14, r_m_8_74, .inl rfl⟩ (by decide +kernel) rfl : e_Sn 94 4 (o_getf (e_f1 14 0) 7)) t_94_7
noncomputable def n_94_1 : e_Y := u_getf 16 0 (u_old (o_getf (e_f1 16 0) 4) n_94_4) n_94_4
theorem t_94_1 : e_Sn 94 1 (e_un n_94_1) := u_getfT (s_getf (C := er_16) (T := et_16) (N := 5) (ref := "PlateroomprinterModel$Run") (index := 25) (ci := 16) (k := 0) hq_94 ho_94 ⟨rfl, by decide, ei_16, r_m_9_89, .inl rfl⟩ (by decide +kernel) rfl : e_Sn 94 1 (o_getf (e_f1 16 0) 4)) t_94_4
noncomputable def n_94_0 : e_Y := u_ld f_okA f_l0 n_94_1
theorem t_94_0 : e_Sn 94 0 (e_un n_94_0) := u_ldAT f_l0_eq (s_aload (i := .aload_n 0) (len := 1) hq_94 (by decide +kernel) rfl (.inr ⟨0, rfl, rfl, rfl⟩) : e_Sn 94 0 (o_load e_okR 0 1)) t_94_1
noncomputable def e_tb_94 : e_X := (e_lf 0 (e_un n_94_0))
theorem e_tk_94 : e_Tb 94 e_tb_94 := (e_lfT t_94_0)
theorem hq_93 : (e_ml[93]?).map (·.2.1) = some prog_20_method_9_code := Eq.trans (congrArg (Option.map (fun e => e.2.1)) hy_93) rfl
theorem ho_93 : (e_ml[93]?).map (·.1.cls) = some "PlateroomprinterModel$Run" := Eq.trans (congrArg (Option.map (fun e => e.1.cls)) hy_93) rfl
theorem hr_93 : (e_ml[93]?).map (·.2.2.2) = some none := Eq.trans (congrArg (Option.map (fun e => e.2.2.2)) hy_93) rfl
noncomputable def n_93_29 : e_Y := u_retV
theorem t_93_29 : e_Sn 93 29 (e_un n_93_29) := u_retVT (s_vret hq_93 hr_93 (by decide +kernel) : e_Sn 93 29 (o_retv))
noncomputable def n_93_26 : e_Y := u_callV 16 94 2 21 2 n_94_0 n_93_29
theorem t_93_26 : e_Sn 93 26 (e_un n_93_26) := u_callVT rfl (s_callV (ci := 16) (C := er_16) (T := et_16) (N := 5) (index := 138) hq_93 ho_93 hy_94 hp_94 hc_94 hi_94 hd_94 r_m_9_188 hs_94 (List.mem_of_getElem? (i := 21) (by decide +kernel)) rfl (by decide +kernel) rfl : e_Sn 93 26 (o_callV (e_s1 16 94 2) 2 29)) t_94_0 t_93_29
noncomputable def n_93_23 : e_Y := u_callI 74 4 23 4 n_74_0 n_93_26
theorem t_93_23 : e_Sn 93 23 (e_un n_93_23) := u_callIT rfl (s_callI (index := 135) hq_93 ho_93 hy_74 hp_74 hc_74 hi_74 hd_74 r_m_9_171 rfl rfl hs_74 (by decide +kernel) rfl : e_Sn 93 23 (o_callI 74 4 4 26)) t_74_0 t_93_26
noncomputable def n_93_22 : e_Y := u_push e_N n_93_23
theorem t_93_22 : e_Sn 93 22 (e_un n_93_22) := u_pushT (s_null hq_93 (by decide +kernel) rfl : e_Sn 93 22 (o_push e_N 23)) t_93_23
noncomputable def n_93_21 : e_Y := u_old (o_l2i 22) n_93_22
theorem t_93_21 : e_Sn 93 21 (e_un n_93_21) := u_oldT (s_l2i hq_93 (by decide +kernel) rfl : e_Sn 93 21 (o_l2i 22)) t_93_22 e_cg_l2i
noncomputable def n_93_20 : e_Y := u_old (o_load e_okL 1 21) n_93_21
theorem t_93_20 : e_Sn 93 20 (e_un n_93_20) := u_oldT (s_lload (i := .lload_n 1) (len := 1) hq_93 (by decide +kernel) rfl (.inr ⟨1, rfl, rfl, rfl⟩) : e_Sn 93 20 (o_load e_okL 1 21)) t_93_21 e_congr_load
noncomputable def n_93_19 : e_Y := u_push (.inl 2147483648) n_93_20
theorem t_93_19 : e_Sn 93 19 (e_un n_93_19) := u_pushT (s_iconst (n := (0)) hq_93 (by decide +kernel) rfl ⟨by decide +kernel, by decide +kernel⟩ : e_Sn 93 19 (o_push (.inl 2147483648) 20)) t_93_20
noncomputable def n_93_18 : e_Y := u_old (o_dup 19) n_93_19
theorem t_93_18 : e_Sn 93 18 (e_un n_93_18) := u_oldT (s_dup hq_93 (by decide +kernel) rfl : e_Sn 93 18 (o_dup 19)) t_93_19 e_cg_dup
noncomputable def n_93_15 : e_Y := u_tab (o_new 13 3 ef_13 18)
theorem t_93_15 : e_Sn 93 15 (e_un n_93_15) := u_tabT (s_new (index := 133) (ci := 13) (N := 3) (C := er_13) (T := et_13) (ty0 := ey_13) (fv := eg_13) hq_93 ho_93 rfl ei_13 eo_13 r_m_9_169 r_m_9_170 r_m_1_36 eh_13 rfl (e_newrel ek_13) (by decide +kernel) rfl : e_Sn 93 15 (o_new 13 3 ef_13 18))
noncomputable def n_93_14 : e_Y := u_ld f_okA f_l0 n_93_15
theorem t_93_14 : e_Sn 93 14 (e_un n_93_14) := u_ldAT f_l0_eq (s_aload (i := .aload_n 0) (len := 1) hq_93 (by decide +kernel) rfl (.inr ⟨0, rfl, rfl, rfl⟩) : e_Sn 93 14 (o_load e_okR 0 15)) t_93_15
noncomputable def n_93_11 : e_Y := u_callS 68 2 21 2 n_68_0 n_93_14
theorem t_93_11 : e_Sn 93 11 (e_un n_93_11) := u_callST rfl (s_callSN (host := "PlateroomprinterModel") (index := 73) hq_93 ho_93 hy_68 hp_68 hc_68 hi_68 hd_68 r_m_9_142 hs_68 (by decide +kernel) rfl : e_Sn 93 11 (o_callS 68 2 2 14)) t_68_0 t_93_14
noncomputable def n_93_10 : e_Y := u_push (.inl 2147483651) n_93_11
theorem t_93_10 : e_Sn 93 10 (e_un n_93_10) := u_pushT (s_iconst (n := (3)) hq_93 (by decide +kernel) rfl ⟨by decide +kernel, by decide +kernel⟩ : e_Sn 93 10 (o_push (.inl 2147483651) 11)) t_93_11
noncomputable def n_93_7 : e_Y := u_callS 66 6 25 3 n_66_0 n_93_10
theorem t_93_7 : e_Sn 93 7 (e_un n_93_7) := u_callST rfl (s_callSN (host := "PlateroomprinterModel") (index := 129) hq_93 ho_93 hy_66 hp_66 hc_66 hi_66 hd_66 r_m_9_141 hs_66 (by decide +kernel) rfl : e_Sn 93 7 (o_callS 66 6 3 10)) t_66_0 t_93_10
noncomputable def n_93_4 : e_Y := u_push (e_L 9223372036854875807) n_93_7
theorem t_93_4 : e_Sn 93 4 (e_un n_93_4) := u_pushT (s_ldc2 (index := 127) (v := (99999)) hq_93 ho_93 (r_k9 (List.mem_of_getElem? (i := 140) (by decide +kernel))) (by decide +kernel) rfl ⟨by decide +kernel, by decide +kernel⟩ : e_Sn 93 4 (o_push (e_L 9223372036854875807) 7)) t_93_7
noncomputable def n_93_1 : e_Y := u_push (e_L 9223372036854675809) n_93_4
theorem t_93_1 : e_Sn 93 1 (e_un n_93_1) := u_pushT (s_ldc2 (index := 125) (v := (-99999)) hq_93 ho_93 (r_k9 (List.mem_of_getElem? (i := 139) (by decide +kernel))) (by decide +kernel) rfl ⟨by decide +kernel, by decide +kernel⟩ : e_Sn 93 1 (o_push (e_L 9223372036854675809) 4)) t_93_4
noncomputable def n_93_0 : e_Y := u_old (o_load e_okL 1 1) n_93_1
theorem t_93_0 : e_Sn 93 0 (e_un n_93_0) := u_oldT (s_lload (i := .lload_n 1) (len := 1) hq_93 (by decide +kernel) rfl (.inr ⟨1, rfl, rfl, rfl⟩) : e_Sn 93 0 (o_load e_okL 1 1)) t_93_1 e_congr_load
noncomputable def e_tb_93 : e_X := (e_br 18 (e_lf 0 (e_un n_93_0)) (e_lf 18 (e_un n_93_18)))
theorem e_tk_93 : e_Tb 93 e_tb_93 := (e_brT (e_lfT t_93_0) (e_lfT t_93_18))
theorem hq_97 : (e_ml[97]?).map (·.2.1) = some prog_20_method_14_code := Eq.trans (congrArg (Option.map (fun e => e.2.1)) hy_97) rfl
theorem ho_97 : (e_ml[97]?).map (·.1.cls) = some "PlateroomprinterModel$Run" := Eq.trans (congrArg (Option.map (fun e => e.1.cls)) hy_97) rfl
theorem hr_97 : (e_ml[97]?).map (·.2.2.2) = some none := Eq.trans (congrArg (Option.map (fun e => e.2.2.2)) hy_97) rfl
noncomputable def n_97_123 : e_Y := u_retV
theorem t_97_123 : e_Sn 97 123 (e_un n_97_123) := u_retVT (s_vret hq_97 hr_97 (by decide +kernel) : e_Sn 97 123 (o_retv))
noncomputable def n_97_110 : e_Y := n_97_123
theorem t_97_110 : e_Sn 97 110 (e_un n_97_110) := u_gotoT (s_goto (off := (13)) hq_97 (by decide +kernel) rfl : e_Sn 97 110 (o_goto 123)) t_97_123
noncomputable def n_97_107 : e_Y := u_callV 16 94 2 21 2 n_94_0 n_97_110
theorem t_97_107 : e_Sn 97 107 (e_un n_97_107) := u_callVT rfl (s_callV (ci := 16) (C := er_16) (T := et_16) (N := 5) (index := 138) hq_97 ho_97 hy_94 hp_94 hc_94 hi_94 hd_94 r_m_9_188 hs_94 (List.mem_of_getElem? (i := 21) (by decide +kernel)) rfl (by decide +kernel) rfl : e_Sn 97 107 (o_callV (e_s1 16 94 2) 2 110)) t_94_0 t_97_110
noncomputable def n_97_104 : e_Y := u_callV 16 92 5 24 2 n_92_0 n_97_107
theorem t_97_104 : e_Sn 97 104 (e_un n_97_104) := u_callVT rfl (s_callV (ci := 16) (C := er_16) (T := et_16) (N := 5) (index := 169) hq_97 ho_97 hy_92 hp_92 hc_92 hi_92 hd_92 (r_k12 (List.mem_of_getElem? (i := 104) (by decide +kernel))) hs_92 (List.mem_of_getElem? (i := 33) (by decide +kernel)) rfl (by decide +kernel) rfl : e_Sn 97 104 (o_callV (e_s1 16 92 5) 2 107)) t_92_0 t_97_107
noncomputable def n_97_103 : e_Y := u_ld f_okA f_l1 n_97_104
theorem t_97_103 : e_Sn 97 103 (e_un n_97_103) := u_ldAT f_l1_eq (s_aload (i := .aload_n 1) (len := 1) hq_97 (by decide +kernel) rfl (.inr ⟨1, rfl, rfl, rfl⟩) : e_Sn 97 103 (o_load e_okR 1 104)) t_97_104
noncomputable def n_97_102 : e_Y := u_ld f_okA f_l0 n_97_103
theorem t_97_102 : e_Sn 97 102 (e_un n_97_102) := u_ldAT f_l0_eq (s_aload (i := .aload_n 0) (len := 1) hq_97 (by decide +kernel) rfl (.inr ⟨0, rfl, rfl, rfl⟩) : e_Sn 97 102 (o_load e_okR 0 103)) t_97_103
noncomputable def n_97_101 : e_Y := u_ld f_okA f_l0 n_97_102
theorem t_97_101 : e_Sn 97 101 (e_un n_97_101) := u_ldAT f_l0_eq (s_aload (i := .aload_n 0) (len := 1) hq_97 (by decide +kernel) rfl (.inr ⟨0, rfl, rfl, rfl⟩) : e_Sn 97 101 (o_load e_okR 0 102)) t_97_102
noncomputable def n_97_69 : e_Y := n_97_123
theorem t_97_69 : e_Sn 97 69 (e_un n_97_69) := u_gotoT (s_goto (off := (54)) hq_97 (by decide +kernel) rfl : e_Sn 97 69 (o_goto 123)) t_97_123
noncomputable def n_97_68 : e_Y := u_ast 0 f_okI (u_old (o_ast 0 e_okI 69) n_97_69) n_97_69
theorem t_97_68 : e_Sn 97 68 (e_un n_97_68) := u_astT (fun _ => f_okI_eq) (s_iast hq_97 (by decide +kernel) rfl : e_Sn 97 68 (o_ast 0 e_okI 69)) t_97_69
noncomputable def n_97_67 : e_Y := u_bin a_iadd (u_old (o_iadd 68) n_97_68) n_97_68
theorem t_97_67 : e_Sn 97 67 (e_un n_97_67) := u_iaddT (s_iadd hq_97 (by decide +kernel) rfl : e_Sn 97 67 (o_iadd 68)) t_97_68
noncomputable def n_97_66 : e_Y := u_push (.inl 2147483649) n_97_67
theorem t_97_66 : e_Sn 97 66 (e_un n_97_66) := u_pushT (s_iconst (n := (1)) hq_97 (by decide +kernel) rfl ⟨by decide +kernel, by decide +kernel⟩ : e_Sn 97 66 (o_push (.inl 2147483649) 67)) t_97_67
noncomputable def n_97_65 : e_Y := u_ald 0 (u_old (o_ald e_fcs 66) n_97_66) n_97_66
theorem t_97_65 : e_Sn 97 65 (e_un n_97_65) := u_aldT (s_iald hq_97 (by decide +kernel) rfl : e_Sn 97 65 (o_ald e_fcs 66)) t_97_66
noncomputable def n_97_64 : e_Y := u_old (o_dup2 65) n_97_65
theorem t_97_64 : e_Sn 97 64 (e_un n_97_64) := u_oldT (s_dup2 hq_97 (by decide +kernel) rfl : e_Sn 97 64 (o_dup2 65)) t_97_65 e_cg_dup2
noncomputable def n_97_63 : e_Y := u_ald 0 (u_old (o_ald e_fcs 64) n_97_64) n_97_64
theorem t_97_63 : e_Sn 97 63 (e_un n_97_63) := u_aldT (s_iald hq_97 (by decide +kernel) rfl : e_Sn 97 63 (o_ald e_fcs 64)) t_97_64
noncomputable def n_97_62 : e_Y := u_push (.inl 2147483649) n_97_63
theorem t_97_62 : e_Sn 97 62 (e_un n_97_62) := u_pushT (s_iconst (n := (1)) hq_97 (by decide +kernel) rfl ⟨by decide +kernel, by decide +kernel⟩ : e_Sn 97 62 (o_push (.inl 2147483649) 63)) t_97_63
noncomputable def n_97_61 : e_Y := u_ld f_okA f_l2 n_97_62
theorem t_97_61 : e_Sn 97 61 (e_un n_97_61) := u_ldAT f_l2_eq (s_aload (i := .aload_n 2) (len := 1) hq_97 (by decide +kernel) rfl (.inr ⟨2, rfl, rfl, rfl⟩) : e_Sn 97 61 (o_load e_okR 2 62)) t_97_62
noncomputable def n_97_58 : e_Y := u_getf 14 12 (u_old (o_getf (e_f1 14 12) 61) n_97_61) n_97_61
theorem t_97_58 : e_Sn 97 58 (e_un n_97_58) := u_getfT (s_getf (C := er_14) (T := et_14) (N := 13) (ref := "PlateroomprinterModel$Machine") (index := 163) (ci := 14) (k := 12) hq_97 ho_97 ⟨rfl, by decide, ei_14, (r_k8 (List.mem_of_getElem? (i := 110) (by decide +kernel))), .inl rfl⟩ (by decide +kernel) rfl : e_Sn 97 58 (o_getf (e_f1 14 12) 61)) t_97_61
noncomputable def n_97_55 : e_Y := u_getf 16 0 (u_old (o_getf (e_f1 16 0) 58) n_97_58) n_97_58
theorem t_97_55 : e_Sn 97 55 (e_un n_97_55) := u_getfT (s_getf (C := er_16) (T := et_16) (N := 5) (ref := "PlateroomprinterModel$Run") (index := 25) (ci := 16) (k := 0) hq_97 ho_97 ⟨rfl, by decide, ei_16, r_m_9_89, .inl rfl⟩ (by decide +kernel) rfl : e_Sn 97 55 (o_getf (e_f1 16 0) 58)) t_97_58
noncomputable def n_97_54 : e_Y := u_ld f_okA f_l0 n_97_55
theorem t_97_54 : e_Sn 97 54 (e_un n_97_54) := u_ldAT f_l0_eq (s_aload (i := .aload_n 0) (len := 1) hq_97 (by decide +kernel) rfl (.inr ⟨0, rfl, rfl, rfl⟩) : e_Sn 97 54 (o_load e_okR 0 55)) t_97_55
noncomputable def n_97_51 : e_Y := u_callV 16 89 2 21 2 n_89_0 n_97_54
theorem t_97_51 : e_Sn 97 51 (e_un n_97_51) := u_callVT rfl (s_callV (ci := 16) (C := er_16) (T := et_16) (N := 5) (index := 159) hq_97 ho_97 hy_89 hp_89 hc_89 hi_89 hd_89 (r_k9 (List.mem_of_getElem? (i := 198) (by decide +kernel))) hs_89 (List.mem_of_getElem? (i := 23) (by decide +kernel)) rfl (by decide +kernel) rfl : e_Sn 97 51 (o_callV (e_s1 16 89 2) 2 54)) t_89_0 t_97_54
noncomputable def n_97_50 : e_Y := u_ald 0 (u_old (o_ald e_fcs 51) n_97_51) n_97_51
theorem t_97_50 : e_Sn 97 50 (e_un n_97_50) := u_aldT (s_iald hq_97 (by decide +kernel) rfl : e_Sn 97 50 (o_ald e_fcs 51)) t_97_51
noncomputable def n_97_49 : e_Y := u_push (.inl 2147483649) n_97_50
theorem t_97_49 : e_Sn 97 49 (e_un n_97_49) := u_pushT (s_iconst (n := (1)) hq_97 (by decide +kernel) rfl ⟨by decide +kernel, by decide +kernel⟩ : e_Sn 97 49 (o_push (.inl 2147483649) 50)) t_97_50
noncomputable def n_97_48 : e_Y := u_ld f_okA f_l2 n_97_49
theorem t_97_48 : e_Sn 97 48 (e_un n_97_48) := u_ldAT f_l2_eq (s_aload (i := .aload_n 2) (len := 1) hq_97 (by decide +kernel) rfl (.inr ⟨2, rfl, rfl, rfl⟩) : e_Sn 97 48 (o_load e_okR 2 49)) t_97_49
noncomputable def n_97_47 : e_Y := u_ld f_okA f_l0 n_97_48
theorem t_97_47 : e_Sn 97 47 (e_un n_97_47) := u_ldAT f_l0_eq (s_aload (i := .aload_n 0) (len := 1) hq_97 (by decide +kernel) rfl (.inr ⟨0, rfl, rfl, rfl⟩) : e_Sn 97 47 (o_load e_okR 0 48)) t_97_48
noncomputable def n_97_44 : e_Y := n_97_123
theorem t_97_44 : e_Sn 97 44 (e_un n_97_44) := u_gotoT (s_goto (off := (79)) hq_97 (by decide +kernel) rfl : e_Sn 97 44 (o_goto 123)) t_97_123
noncomputable def n_97_41 : e_Y := u_callV 16 93 3 22 2 n_93_0 n_97_44
theorem t_97_41 : e_Sn 97 41 (e_un n_97_41) := u_callVT rfl (s_callV (ci := 16) (C := er_16) (T := et_16) (N := 5) (index := 118) hq_97 ho_97 hy_93 hp_93 hc_93 hi_93 hd_93 (r_k9 (List.mem_of_getElem? (i := 135) (by decide +kernel))) hs_93 (List.mem_of_getElem? (i := 20) (by decide +kernel)) rfl (by decide +kernel) rfl : e_Sn 97 41 (o_callV (e_s1 16 93 3) 2 44)) t_93_0 t_97_44
noncomputable def n_97_40 : e_Y := u_old (o_i2l 41) n_97_41
theorem t_97_40 : e_Sn 97 40 (e_un n_97_40) := u_oldT (s_i2l hq_97 (by decide +kernel) rfl : e_Sn 97 40 (o_i2l 41)) t_97_41 e_congr_i2l
noncomputable def n_97_39 : e_Y := u_ald 0 (u_old (o_ald e_fcs 40) n_97_40) n_97_40
theorem t_97_39 : e_Sn 97 39 (e_un n_97_39) := u_aldT (s_iald hq_97 (by decide +kernel) rfl : e_Sn 97 39 (o_ald e_fcs 40)) t_97_40
noncomputable def n_97_38 : e_Y := u_push (.inl 2147483649) n_97_39
theorem t_97_38 : e_Sn 97 38 (e_un n_97_38) := u_pushT (s_iconst (n := (1)) hq_97 (by decide +kernel) rfl ⟨by decide +kernel, by decide +kernel⟩ : e_Sn 97 38 (o_push (.inl 2147483649) 39)) t_97_39
noncomputable def n_97_37 : e_Y := u_ld f_okA f_l2 n_97_38
theorem t_97_37 : e_Sn 97 37 (e_un n_97_37) := u_ldAT f_l2_eq (s_aload (i := .aload_n 2) (len := 1) hq_97 (by decide +kernel) rfl (.inr ⟨2, rfl, rfl, rfl⟩) : e_Sn 97 37 (o_load e_okR 2 38)) t_97_38
noncomputable def n_97_36 : e_Y := u_ld f_okA f_l0 n_97_37
theorem t_97_36 : e_Sn 97 36 (e_un n_97_36) := u_ldAT f_l0_eq (s_aload (i := .aload_n 0) (len := 1) hq_97 (by decide +kernel) rfl (.inr ⟨0, rfl, rfl, rfl⟩) : e_Sn 97 36 (o_load e_okR 0 37)) t_97_37
noncomputable def n_97_3 : e_Y := u_tab (o_switch 2147483648 [36, 47, 72, 91, 101] 113)
theorem t_97_3 : e_Sn 97 3 (e_un n_97_3) := u_tabT (s_switch (dflt := (110)) (low := (0)) (hi := (4)) (offs := #[(33), (44), (69), (88), (98)]) (len := 33) hq_97 (by decide +kernel) rfl rfl rfl rfl : e_Sn 97 3 (o_switch 2147483648 [36, 47, 72, 91, 101] 113))
noncomputable def n_97_2 : e_Y := u_ald 0 (u_old (o_ald e_fcs 3) n_97_3) n_97_3
theorem t_97_2 : e_Sn 97 2 (e_un n_97_2) := u_aldT (s_iald hq_97 (by decide +kernel) rfl : e_Sn 97 2 (o_ald e_fcs 3)) t_97_3
noncomputable def n_97_1 : e_Y := u_push (.inl 2147483648) n_97_2
theorem t_97_1 : e_Sn 97 1 (e_un n_97_1) := u_pushT (s_iconst (n := (0)) hq_97 (by decide +kernel) rfl ⟨by decide +kernel, by decide +kernel⟩ : e_Sn 97 1 (o_push (.inl 2147483648) 2)) t_97_2
noncomputable def n_97_0 : e_Y := u_ld f_okA f_l2 n_97_1
theorem t_97_0 : e_Sn 97 0 (e_un n_97_0) := u_ldAT f_l2_eq (s_aload (i := .aload_n 2) (len := 1) hq_97 (by decide +kernel) rfl (.inr ⟨2, rfl, rfl, rfl⟩) : e_Sn 97 0 (o_load e_okR 2 1)) t_97_1
noncomputable def e_tb_97 : e_X := (e_br 47 (e_br 36 (e_lf 0 (e_un n_97_0)) (e_lf 36 (e_un n_97_36))) (e_br 101 (e_lf 47 (e_un n_97_47)) (e_lf 101 (e_un n_97_101))))
theorem e_tk_97 : e_Tb 97 e_tb_97 := (e_brT (e_brT (e_lfT t_97_0) (e_lfT t_97_36)) (e_brT (e_lfT t_97_47) (e_lfT t_97_101)))
theorem hq_80 : (e_ml[80]?).map (·.2.1) = some prog_20_method_3_code := Eq.trans (congrArg (Option.map (fun e => e.2.1)) hy_80) rfl
theorem ho_80 : (e_ml[80]?).map (·.1.cls) = some "PlateroomprinterModel$Run" := Eq.trans (congrArg (Option.map (fun e => e.1.cls)) hy_80) rfl
theorem hr_80 : (e_ml[80]?).map (·.2.2.2) = some none := Eq.trans (congrArg (Option.map (fun e => e.2.2.2)) hy_80) rfl
noncomputable def n_80_173 : e_Y := u_retV
theorem t_80_173 : e_Sn 80 173 (e_un n_80_173) := u_retVT (s_vret hq_80 hr_80 (by decide +kernel) : e_Sn 80 173 (o_retv))
noncomputable def n_80_170 : e_Y := u_putf 14 10 f_okI (u_old (o_putf (e_f1 14 10) e_okI 173) n_80_173) n_80_173
theorem t_80_170 : e_Sn 80 170 (e_un n_80_170) := u_putfT (fun _ => f_okI_eq) (s_putf (ty0 := ey_14) (ok := e_okI) (C := er_14) (T := et_14) (N := 13) (ref := "PlateroomprinterModel$Machine") (index := 78) (ci := 14) (k := 10) hq_80 ho_80 ⟨rfl, by decide, ei_14, (r_k8 (List.mem_of_getElem? (i := 104) (by decide +kernel))), .inl rfl⟩ eo_14 en_14 e_oksI (.inl rfl) (by decide +kernel) rfl : e_Sn 80 170 (o_putf (e_f1 14 10) e_okI 173)) t_80_173
noncomputable def n_80_167 : e_Y := u_getf 16 2 (u_old (o_getf (e_f1 16 2) 170) n_80_170) n_80_170
theorem t_80_167 : e_Sn 80 167 (e_un n_80_167) := u_getfT (s_getf (C := er_16) (T := et_16) (N := 5) (ref := "PlateroomprinterModel$Run") (index := 57) (ci := 16) (k := 2) hq_80 ho_80 ⟨rfl, by decide, ei_16, r_m_9_91, .inl rfl⟩ (by decide +kernel) rfl : e_Sn 80 167 (o_getf (e_f1 16 2) 170)) t_80_170
noncomputable def n_80_166 : e_Y := u_ld f_okA f_l0 n_80_167
theorem t_80_166 : e_Sn 80 166 (e_un n_80_166) := u_ldAT f_l0_eq (s_aload (i := .aload_n 0) (len := 1) hq_80 (by decide +kernel) rfl (.inr ⟨0, rfl, rfl, rfl⟩) : e_Sn 80 166 (o_load e_okR 0 167)) t_80_167
noncomputable def n_80_163 : e_Y := u_getf 16 0 (u_old (o_getf (e_f1 16 0) 166) n_80_166) n_80_166
theorem t_80_163 : e_Sn 80 163 (e_un n_80_163) := u_getfT (s_getf (C := er_16) (T := et_16) (N := 5) (ref := "PlateroomprinterModel$Run") (index := 25) (ci := 16) (k := 0) hq_80 ho_80 ⟨rfl, by decide, ei_16, r_m_9_89, .inl rfl⟩ (by decide +kernel) rfl : e_Sn 80 163 (o_getf (e_f1 16 0) 166)) t_80_166
noncomputable def n_80_162 : e_Y := u_ld f_okA f_l0 n_80_163
theorem t_80_162 : e_Sn 80 162 (e_un n_80_162) := u_ldAT f_l0_eq (s_aload (i := .aload_n 0) (len := 1) hq_80 (by decide +kernel) rfl (.inr ⟨0, rfl, rfl, rfl⟩) : e_Sn 80 162 (o_load e_okR 0 163)) t_80_163
noncomputable def n_80_159 : e_Y := u_putf 14 9 f_okI (u_old (o_putf (e_f1 14 9) e_okI 162) n_80_162) n_80_162
theorem t_80_159 : e_Sn 80 159 (e_un n_80_159) := u_putfT (fun _ => f_okI_eq) (s_putf (ty0 := ey_14) (ok := e_okI) (C := er_14) (T := et_14) (N := 13) (ref := "PlateroomprinterModel$Machine") (index := 77) (ci := 14) (k := 9) hq_80 ho_80 ⟨rfl, by decide, ei_14, r_m_8_101, .inl rfl⟩ eo_14 en_14 e_oksI (.inl rfl) (by decide +kernel) rfl : e_Sn 80 159 (o_putf (e_f1 14 9) e_okI 162)) t_80_162
noncomputable def n_80_158 : e_Y := u_bin a_iadd (u_old (o_iadd 159) n_80_159) n_80_159
theorem t_80_158 : e_Sn 80 158 (e_un n_80_158) := u_iaddT (s_iadd hq_80 (by decide +kernel) rfl : e_Sn 80 158 (o_iadd 159)) t_80_159
noncomputable def n_80_155 : e_Y := u_getf 16 2 (u_old (o_getf (e_f1 16 2) 158) n_80_158) n_80_158
theorem t_80_155 : e_Sn 80 155 (e_un n_80_155) := u_getfT (s_getf (C := er_16) (T := et_16) (N := 5) (ref := "PlateroomprinterModel$Run") (index := 57) (ci := 16) (k := 2) hq_80 ho_80 ⟨rfl, by decide, ei_16, r_m_9_91, .inl rfl⟩ (by decide +kernel) rfl : e_Sn 80 155 (o_getf (e_f1 16 2) 158)) t_80_158
noncomputable def n_80_154 : e_Y := u_ld f_okA f_l0 n_80_155
theorem t_80_154 : e_Sn 80 154 (e_un n_80_154) := u_ldAT f_l0_eq (s_aload (i := .aload_n 0) (len := 1) hq_80 (by decide +kernel) rfl (.inr ⟨0, rfl, rfl, rfl⟩) : e_Sn 80 154 (o_load e_okR 0 155)) t_80_155
noncomputable def n_80_151 : e_Y := u_getf 14 9 (u_old (o_getf (e_f1 14 9) 154) n_80_154) n_80_154
theorem t_80_151 : e_Sn 80 151 (e_un n_80_151) := u_getfT (s_getf (C := er_14) (T := et_14) (N := 13) (ref := "PlateroomprinterModel$Machine") (index := 77) (ci := 14) (k := 9) hq_80 ho_80 ⟨rfl, by decide, ei_14, r_m_8_101, .inl rfl⟩ (by decide +kernel) rfl : e_Sn 80 151 (o_getf (e_f1 14 9) 154)) t_80_154
noncomputable def n_80_150 : e_Y := u_old (o_dup 151) n_80_151
theorem t_80_150 : e_Sn 80 150 (e_un n_80_150) := u_oldT (s_dup hq_80 (by decide +kernel) rfl : e_Sn 80 150 (o_dup 151)) t_80_151 e_cg_dup
noncomputable def n_80_147 : e_Y := u_getf 16 0 (u_old (o_getf (e_f1 16 0) 150) n_80_150) n_80_150
theorem t_80_147 : e_Sn 80 147 (e_un n_80_147) := u_getfT (s_getf (C := er_16) (T := et_16) (N := 5) (ref := "PlateroomprinterModel$Run") (index := 25) (ci := 16) (k := 0) hq_80 ho_80 ⟨rfl, by decide, ei_16, r_m_9_89, .inl rfl⟩ (by decide +kernel) rfl : e_Sn 80 147 (o_getf (e_f1 16 0) 150)) t_80_150
noncomputable def n_80_146 : e_Y := u_ld f_okA f_l0 n_80_147
theorem t_80_146 : e_Sn 80 146 (e_un n_80_146) := u_ldAT f_l0_eq (s_aload (i := .aload_n 0) (len := 1) hq_80 (by decide +kernel) rfl (.inr ⟨0, rfl, rfl, rfl⟩) : e_Sn 80 146 (o_load e_okR 0 147)) t_80_147
noncomputable def n_80_143 : e_Y := (u_at 0)
theorem t_80_143 : e_Sn 80 143 (e_un n_80_143) := u_gotoT (s_goto (off := (-143)) hq_80 (by decide +kernel) rfl : e_Sn 80 143 (o_goto 0)) u_atT
noncomputable def n_80_140 : e_Y := u_callS 68 2 21 2 n_68_0 n_80_143
theorem t_80_140 : e_Sn 80 140 (e_un n_80_140) := u_callST rfl (s_callSN (host := "PlateroomprinterModel") (index := 73) hq_80 ho_80 hy_68 hp_68 hc_68 hi_68 hd_68 r_m_9_142 hs_68 (by decide +kernel) rfl : e_Sn 80 140 (o_callS 68 2 2 143)) t_68_0 t_80_143
noncomputable def n_80_138 : e_Y := u_push (.inl 2147483659) n_80_140
theorem t_80_138 : e_Sn 80 138 (e_un n_80_138) := u_pushT (s_bipush (n := (11)) hq_80 (by decide +kernel) rfl ⟨by decide +kernel, by decide +kernel⟩ : e_Sn 80 138 (o_push (.inl 2147483659) 140)) t_80_140
noncomputable def n_80_134 : e_Y := n_80_138
theorem t_80_134 : e_Sn 80 134 (e_un n_80_134) := u_gotoT (s_goto (off := (4)) hq_80 (by decide +kernel) rfl : e_Sn 80 134 (o_goto 138)) t_80_138
noncomputable def n_80_133 : e_Y := u_push (.inl 2147483649) n_80_134
theorem t_80_133 : e_Sn 80 133 (e_un n_80_133) := u_pushT (s_iconst (n := (1)) hq_80 (by decide +kernel) rfl ⟨by decide +kernel, by decide +kernel⟩ : e_Sn 80 133 (o_push (.inl 2147483649) 134)) t_80_134
noncomputable def n_80_130 : e_Y := u_jmp y_le (u_old2 (o_cgt 137 133) 137 (u_at 137) n_80_133) (u_at 137) n_80_133
theorem t_80_130 : e_Sn 80 130 (e_un n_80_130) := u_cgtT rfl (s_cgt (off := (7)) hq_80 (by decide +kernel) rfl rfl : e_Sn 80 130 (o_cgt 137 133)) u_atT t_80_133
noncomputable def n_80_127 : e_Y := u_push (.inl 2147488648) n_80_130
theorem t_80_127 : e_Sn 80 127 (e_un n_80_127) := u_pushT (s_sipush (n := (5000)) hq_80 (by decide +kernel) rfl ⟨by decide +kernel, by decide +kernel⟩ : e_Sn 80 127 (o_push (.inl 2147488648) 130)) t_80_130
noncomputable def n_80_124 : e_Y := u_getf 16 2 (u_old (o_getf (e_f1 16 2) 127) n_80_127) n_80_127
theorem t_80_124 : e_Sn 80 124 (e_un n_80_124) := u_getfT (s_getf (C := er_16) (T := et_16) (N := 5) (ref := "PlateroomprinterModel$Run") (index := 57) (ci := 16) (k := 2) hq_80 ho_80 ⟨rfl, by decide, ei_16, r_m_9_91, .inl rfl⟩ (by decide +kernel) rfl : e_Sn 80 124 (o_getf (e_f1 16 2) 127)) t_80_127
noncomputable def n_80_123 : e_Y := u_ld f_okA f_l0 n_80_124
theorem t_80_123 : e_Sn 80 123 (e_un n_80_123) := u_ldAT f_l0_eq (s_aload (i := .aload_n 0) (len := 1) hq_80 (by decide +kernel) rfl (.inr ⟨0, rfl, rfl, rfl⟩) : e_Sn 80 123 (o_load e_okR 0 124)) t_80_124
noncomputable def n_80_120 : e_Y := u_putf 14 11 f_okI (u_old (o_putf (e_f1 14 11) e_okI 123) n_80_123) n_80_123
theorem t_80_120 : e_Sn 80 120 (e_un n_80_120) := u_putfT (fun _ => f_okI_eq) (s_putf (ty0 := ey_14) (ok := e_okI) (C := er_14) (T := et_14) (N := 13) (ref := "PlateroomprinterModel$Machine") (index := 69) (ci := 14) (k := 11) hq_80 ho_80 ⟨rfl, by decide, ei_14, r_m_8_107, .inl rfl⟩ eo_14 en_14 e_oksI (.inl rfl) (by decide +kernel) rfl : e_Sn 80 120 (o_putf (e_f1 14 11) e_okI 123)) t_80_123
noncomputable def n_80_119 : e_Y := u_bin a_iadd (u_old (o_iadd 120) n_80_120) n_80_120
theorem t_80_119 : e_Sn 80 119 (e_un n_80_119) := u_iaddT (s_iadd hq_80 (by decide +kernel) rfl : e_Sn 80 119 (o_iadd 120)) t_80_120
noncomputable def n_80_118 : e_Y := u_push (.inl 2147483649) n_80_119
theorem t_80_118 : e_Sn 80 118 (e_un n_80_118) := u_pushT (s_iconst (n := (1)) hq_80 (by decide +kernel) rfl ⟨by decide +kernel, by decide +kernel⟩ : e_Sn 80 118 (o_push (.inl 2147483649) 119)) t_80_119
noncomputable def n_80_115 : e_Y := u_getf 14 11 (u_old (o_getf (e_f1 14 11) 118) n_80_118) n_80_118
theorem t_80_115 : e_Sn 80 115 (e_un n_80_115) := u_getfT (s_getf (C := er_14) (T := et_14) (N := 13) (ref := "PlateroomprinterModel$Machine") (index := 69) (ci := 14) (k := 11) hq_80 ho_80 ⟨rfl, by decide, ei_14, r_m_8_107, .inl rfl⟩ (by decide +kernel) rfl : e_Sn 80 115 (o_getf (e_f1 14 11) 118)) t_80_118
noncomputable def n_80_114 : e_Y := u_old (o_dup 115) n_80_115
theorem t_80_114 : e_Sn 80 114 (e_un n_80_114) := u_oldT (s_dup hq_80 (by decide +kernel) rfl : e_Sn 80 114 (o_dup 115)) t_80_115 e_cg_dup
noncomputable def n_80_111 : e_Y := u_getf 16 0 (u_old (o_getf (e_f1 16 0) 114) n_80_114) n_80_114
theorem t_80_111 : e_Sn 80 111 (e_un n_80_111) := u_getfT (s_getf (C := er_16) (T := et_16) (N := 5) (ref := "PlateroomprinterModel$Run") (index := 25) (ci := 16) (k := 0) hq_80 ho_80 ⟨rfl, by decide, ei_16, r_m_9_89, .inl rfl⟩ (by decide +kernel) rfl : e_Sn 80 111 (o_getf (e_f1 16 0) 114)) t_80_114
noncomputable def n_80_110 : e_Y := u_ld f_okA f_l0 n_80_111
theorem t_80_110 : e_Sn 80 110 (e_un n_80_110) := u_ldAT f_l0_eq (s_aload (i := .aload_n 0) (len := 1) hq_80 (by decide +kernel) rfl (.inr ⟨0, rfl, rfl, rfl⟩) : e_Sn 80 110 (o_load e_okR 0 111)) t_80_111
noncomputable def n_80_107 : e_Y := u_callV 16 97 3 22 3 n_97_0 n_80_110
theorem t_80_107 : e_Sn 80 107 (e_un n_80_107) := u_callVT rfl (s_callV (ci := 16) (C := er_16) (T := et_16) (N := 5) (index := 65) hq_80 ho_80 hy_97 hp_97 hc_97 hi_97 hd_97 (r_k9 (List.mem_of_getElem? (i := 194) (by decide +kernel))) hs_97 (List.mem_of_getElem? (i := 22) (by decide +kernel)) rfl (by decide +kernel) rfl : e_Sn 80 107 (o_callV (e_s1 16 97 3) 3 110)) t_97_0 t_80_110
noncomputable def n_80_104 : e_Y := u_old (o_cast 100 107) n_80_107
theorem t_80_104 : e_Sn 80 104 (e_un n_80_104) := u_oldT (s_cast (index := 63) hq_80 ho_80 r_m_9_193 (.inr ⟨rfl, rfl⟩) (by decide +kernel) rfl : e_Sn 80 104 (o_cast 100 107)) t_80_107 (e_cg_cast 100)
noncomputable def n_80_101 : e_Y := u_callV 19 110 2 21 2 n_110_0 n_80_104
theorem t_80_101 : e_Sn 80 101 (e_un n_80_101) := u_callVT rfl (s_callV (ci := 19) (C := er_19) (T := et_19) (N := 3) (index := 42) hq_80 ho_80 hy_110 hp_110 hc_110 hi_110 hd_110 r_m_9_121 hs_110 r_m_8_230 rfl (by decide +kernel) rfl : e_Sn 80 101 (o_callV (e_s1 19 110 2) 2 104)) t_110_0 t_80_104
noncomputable def n_80_98 : e_Y := u_getf 16 4 (u_old (o_getf (e_f1 16 4) 101) n_80_101) n_80_101
theorem t_80_98 : e_Sn 80 98 (e_un n_80_98) := u_getfT (s_getf (C := er_16) (T := et_16) (N := 5) (ref := "PlateroomprinterModel$Run") (index := 22) (ci := 16) (k := 4) hq_80 ho_80 ⟨rfl, by decide, ei_16, r_m_9_94, .inl rfl⟩ (by decide +kernel) rfl : e_Sn 80 98 (o_getf (e_f1 16 4) 101)) t_80_101
noncomputable def n_80_97 : e_Y := u_ld f_okA f_l0 n_80_98
theorem t_80_97 : e_Sn 80 97 (e_un n_80_97) := u_ldAT f_l0_eq (s_aload (i := .aload_n 0) (len := 1) hq_80 (by decide +kernel) rfl (.inr ⟨0, rfl, rfl, rfl⟩) : e_Sn 80 97 (o_load e_okR 0 98)) t_80_98
noncomputable def n_80_94 : e_Y := u_getf 15 0 (u_old (o_getf (e_f1 15 0) 97) n_80_97) n_80_97
theorem t_80_94 : e_Sn 80 94 (e_un n_80_94) := u_getfT (s_getf (C := er_15) (T := et_15) (N := 8) (ref := "PlateroomprinterModel$Row") (index := 60) (ci := 15) (k := 0) hq_80 ho_80 ⟨rfl, by decide, ei_15, r_m_9_62, .inl rfl⟩ (by decide +kernel) rfl : e_Sn 80 94 (o_getf (e_f1 15 0) 97)) t_80_97
noncomputable def n_80_93 : e_Y := u_ld f_okA f_l1 n_80_94
theorem t_80_93 : e_Sn 80 93 (e_un n_80_93) := u_ldAT f_l1_eq (s_aload (i := .aload_n 1) (len := 1) hq_80 (by decide +kernel) rfl (.inr ⟨1, rfl, rfl, rfl⟩) : e_Sn 80 93 (o_load e_okR 1 94)) t_80_94
noncomputable def n_80_92 : e_Y := u_ld f_okA f_l1 n_80_93
theorem t_80_92 : e_Sn 80 92 (e_un n_80_92) := u_ldAT f_l1_eq (s_aload (i := .aload_n 1) (len := 1) hq_80 (by decide +kernel) rfl (.inr ⟨1, rfl, rfl, rfl⟩) : e_Sn 80 92 (o_load e_okR 1 93)) t_80_93
noncomputable def n_80_91 : e_Y := u_ld f_okA f_l0 n_80_92
theorem t_80_91 : e_Sn 80 91 (e_un n_80_91) := u_ldAT f_l0_eq (s_aload (i := .aload_n 0) (len := 1) hq_80 (by decide +kernel) rfl (.inr ⟨0, rfl, rfl, rfl⟩) : e_Sn 80 91 (o_load e_okR 0 92)) t_80_92
noncomputable def n_80_88 : e_Y := u_putf 16 2 f_okI (u_old (o_putf (e_f1 16 2) e_okI 91) n_80_91) n_80_91
theorem t_80_88 : e_Sn 80 88 (e_un n_80_88) := u_putfT (fun _ => f_okI_eq) (s_putf (ty0 := ey_16) (ok := e_okI) (C := er_16) (T := et_16) (N := 5) (ref := "PlateroomprinterModel$Run") (index := 57) (ci := 16) (k := 2) hq_80 ho_80 ⟨rfl, by decide, ei_16, r_m_9_91, .inl rfl⟩ eo_16 en_16 e_oksI (.inl rfl) (by decide +kernel) rfl : e_Sn 80 88 (o_putf (e_f1 16 2) e_okI 91)) t_80_91
noncomputable def n_80_87 : e_Y := u_bin a_iadd (u_old (o_iadd 88) n_80_88) n_80_88
theorem t_80_87 : e_Sn 80 87 (e_un n_80_87) := u_iaddT (s_iadd hq_80 (by decide +kernel) rfl : e_Sn 80 87 (o_iadd 88)) t_80_88
noncomputable def n_80_86 : e_Y := u_push (.inl 2147483649) n_80_87
theorem t_80_86 : e_Sn 80 86 (e_un n_80_86) := u_pushT (s_iconst (n := (1)) hq_80 (by decide +kernel) rfl ⟨by decide +kernel, by decide +kernel⟩ : e_Sn 80 86 (o_push (.inl 2147483649) 87)) t_80_87
noncomputable def n_80_83 : e_Y := u_getf 16 2 (u_old (o_getf (e_f1 16 2) 86) n_80_86) n_80_86
theorem t_80_83 : e_Sn 80 83 (e_un n_80_83) := u_getfT (s_getf (C := er_16) (T := et_16) (N := 5) (ref := "PlateroomprinterModel$Run") (index := 57) (ci := 16) (k := 2) hq_80 ho_80 ⟨rfl, by decide, ei_16, r_m_9_91, .inl rfl⟩ (by decide +kernel) rfl : e_Sn 80 83 (o_getf (e_f1 16 2) 86)) t_80_86
noncomputable def n_80_82 : e_Y := u_old (o_dup 83) n_80_83
theorem t_80_82 : e_Sn 80 82 (e_un n_80_82) := u_oldT (s_dup hq_80 (by decide +kernel) rfl : e_Sn 80 82 (o_dup 83)) t_80_83 e_cg_dup
noncomputable def n_80_81 : e_Y := u_ld f_okA f_l0 n_80_82
theorem t_80_81 : e_Sn 80 81 (e_un n_80_81) := u_ldAT f_l0_eq (s_aload (i := .aload_n 0) (len := 1) hq_80 (by decide +kernel) rfl (.inr ⟨0, rfl, rfl, rfl⟩) : e_Sn 80 81 (o_load e_okR 0 82)) t_80_82
noncomputable def n_80_78 : e_Y := u_putf 15 1 f_okI (u_old (o_putf (e_f1 15 1) e_okI 81) n_80_81) n_80_81
theorem t_80_78 : e_Sn 80 78 (e_un n_80_78) := u_putfT (fun _ => f_okI_eq) (s_putf (ty0 := ey_15) (ok := e_okI) (C := er_15) (T := et_15) (N := 8) (ref := "PlateroomprinterModel$Row") (index := 50) (ci := 15) (k := 1) hq_80 ho_80 ⟨rfl, by decide, ei_15, r_m_9_64, .inl rfl⟩ eo_15 en_15 e_oksI (.inl rfl) (by decide +kernel) rfl : e_Sn 80 78 (o_putf (e_f1 15 1) e_okI 81)) t_80_81
noncomputable def n_80_77 : e_Y := u_bin a_iadd (u_old (o_iadd 78) n_80_78) n_80_78
theorem t_80_77 : e_Sn 80 77 (e_un n_80_77) := u_iaddT (s_iadd hq_80 (by decide +kernel) rfl : e_Sn 80 77 (o_iadd 78)) t_80_78
noncomputable def n_80_76 : e_Y := u_push (.inl 2147483649) n_80_77
theorem t_80_76 : e_Sn 80 76 (e_un n_80_76) := u_pushT (s_iconst (n := (1)) hq_80 (by decide +kernel) rfl ⟨by decide +kernel, by decide +kernel⟩ : e_Sn 80 76 (o_push (.inl 2147483649) 77)) t_80_77
noncomputable def n_80_73 : e_Y := u_getf 15 1 (u_old (o_getf (e_f1 15 1) 76) n_80_76) n_80_76
theorem t_80_73 : e_Sn 80 73 (e_un n_80_73) := u_getfT (s_getf (C := er_15) (T := et_15) (N := 8) (ref := "PlateroomprinterModel$Row") (index := 50) (ci := 15) (k := 1) hq_80 ho_80 ⟨rfl, by decide, ei_15, r_m_9_64, .inl rfl⟩ (by decide +kernel) rfl : e_Sn 80 73 (o_getf (e_f1 15 1) 76)) t_80_76
noncomputable def n_80_72 : e_Y := u_old (o_dup 73) n_80_73
theorem t_80_72 : e_Sn 80 72 (e_un n_80_72) := u_oldT (s_dup hq_80 (by decide +kernel) rfl : e_Sn 80 72 (o_dup 73)) t_80_73 e_cg_dup
noncomputable def n_80_71 : e_Y := u_ld f_okA f_l1 n_80_72
theorem t_80_71 : e_Sn 80 71 (e_un n_80_71) := u_ldAT f_l1_eq (s_aload (i := .aload_n 1) (len := 1) hq_80 (by decide +kernel) rfl (.inr ⟨1, rfl, rfl, rfl⟩) : e_Sn 80 71 (o_load e_okR 1 72)) t_80_72
noncomputable def n_80_70 : e_Y := u_st f_okA f_s1 n_80_71
theorem t_80_70 : e_Sn 80 70 (e_un n_80_70) := u_stAT (fun _ _ _ => f_s1_eq) (s_astore (i := .astore_n 1) (len := 1) hq_80 (by decide +kernel) rfl (.inr ⟨1, rfl, rfl, rfl⟩) : e_Sn 80 70 (o_store e_okR 1 71)) t_80_71
noncomputable def n_80_67 : e_Y := u_callV 16 98 1 20 1 n_98_0 n_80_70
theorem t_80_67 : e_Sn 80 67 (e_un n_80_67) := u_callVT rfl (s_callV (ci := 16) (C := er_16) (T := et_16) (N := 5) (index := 53) hq_80 ho_80 hy_98 hp_98 hc_98 hi_98 hd_98 r_m_9_116 hs_98 (List.mem_of_getElem? (i := 17) (by decide +kernel)) rfl (by decide +kernel) rfl : e_Sn 80 67 (o_callV (e_s1 16 98 1) 1 70)) t_98_0 t_80_70
noncomputable def n_80_66 : e_Y := u_ld f_okA f_l0 n_80_67
theorem t_80_66 : e_Sn 80 66 (e_un n_80_66) := u_ldAT f_l0_eq (s_aload (i := .aload_n 0) (len := 1) hq_80 (by decide +kernel) rfl (.inr ⟨0, rfl, rfl, rfl⟩) : e_Sn 80 66 (o_load e_okR 0 67)) t_80_67
noncomputable def n_80_63 : e_Y := u_putf 16 4 f_okI (u_old (o_putf (e_f1 16 4) e_okI 66) n_80_66) n_80_66
theorem t_80_63 : e_Sn 80 63 (e_un n_80_63) := u_putfT (fun _ => f_okI_eq) (s_putf (ty0 := ey_16) (ok := e_okI) (C := er_16) (T := et_16) (N := 5) (ref := "PlateroomprinterModel$Run") (index := 22) (ci := 16) (k := 4) hq_80 ho_80 ⟨rfl, by decide, ei_16, r_m_9_94, .inl rfl⟩ eo_16 en_16 e_oksI (.inl rfl) (by decide +kernel) rfl : e_Sn 80 63 (o_putf (e_f1 16 4) e_okI 66)) t_80_66
noncomputable def n_80_60 : e_Y := u_getf 15 1 (u_old (o_getf (e_f1 15 1) 63) n_80_63) n_80_63
theorem t_80_60 : e_Sn 80 60 (e_un n_80_60) := u_getfT (s_getf (C := er_15) (T := et_15) (N := 8) (ref := "PlateroomprinterModel$Row") (index := 50) (ci := 15) (k := 1) hq_80 ho_80 ⟨rfl, by decide, ei_15, r_m_9_64, .inl rfl⟩ (by decide +kernel) rfl : e_Sn 80 60 (o_getf (e_f1 15 1) 63)) t_80_63
noncomputable def n_80_57 : e_Y := u_callV 16 98 1 20 1 n_98_0 n_80_60
theorem t_80_57 : e_Sn 80 57 (e_un n_80_57) := u_callVT rfl (s_callV (ci := 16) (C := er_16) (T := et_16) (N := 5) (index := 53) hq_80 ho_80 hy_98 hp_98 hc_98 hi_98 hd_98 r_m_9_116 hs_98 (List.mem_of_getElem? (i := 17) (by decide +kernel)) rfl (by decide +kernel) rfl : e_Sn 80 57 (o_callV (e_s1 16 98 1) 1 60)) t_98_0 t_80_60
noncomputable def n_80_56 : e_Y := u_ld f_okA f_l0 n_80_57
theorem t_80_56 : e_Sn 80 56 (e_un n_80_56) := u_ldAT f_l0_eq (s_aload (i := .aload_n 0) (len := 1) hq_80 (by decide +kernel) rfl (.inr ⟨0, rfl, rfl, rfl⟩) : e_Sn 80 56 (o_load e_okR 0 57)) t_80_57
noncomputable def n_80_55 : e_Y := u_ld f_okA f_l0 n_80_56
theorem t_80_55 : e_Sn 80 55 (e_un n_80_55) := u_ldAT f_l0_eq (s_aload (i := .aload_n 0) (len := 1) hq_80 (by decide +kernel) rfl (.inr ⟨0, rfl, rfl, rfl⟩) : e_Sn 80 55 (o_load e_okR 0 56)) t_80_56
noncomputable def n_80_52 : e_Y := u_putf 16 3 f_okI (u_old (o_putf (e_f1 16 3) e_okI 55) n_80_55) n_80_55
theorem t_80_52 : e_Sn 80 52 (e_un n_80_52) := u_putfT (fun _ => f_okI_eq) (s_putf (ty0 := ey_16) (ok := e_okI) (C := er_16) (T := et_16) (N := 5) (ref := "PlateroomprinterModel$Run") (index := 18) (ci := 16) (k := 3) hq_80 ho_80 ⟨rfl, by decide, ei_16, r_m_9_92, .inl rfl⟩ eo_16 en_16 e_oksI (.inl rfl) (by decide +kernel) rfl : e_Sn 80 52 (o_putf (e_f1 16 3) e_okI 55)) t_80_55
noncomputable def n_80_51 : e_Y := u_bin a_isub (u_old (o_isub 52) n_80_52) n_80_52
theorem t_80_51 : e_Sn 80 51 (e_un n_80_51) := u_isubT (s_isub hq_80 (by decide +kernel) rfl : e_Sn 80 51 (o_isub 52)) t_80_52
noncomputable def n_80_50 : e_Y := u_push (.inl 2147483649) n_80_51
theorem t_80_50 : e_Sn 80 50 (e_un n_80_50) := u_pushT (s_iconst (n := (1)) hq_80 (by decide +kernel) rfl ⟨by decide +kernel, by decide +kernel⟩ : e_Sn 80 50 (o_push (.inl 2147483649) 51)) t_80_51
noncomputable def n_80_47 : e_Y := u_getf 15 1 (u_old (o_getf (e_f1 15 1) 50) n_80_50) n_80_50
theorem t_80_47 : e_Sn 80 47 (e_un n_80_47) := u_getfT (s_getf (C := er_15) (T := et_15) (N := 8) (ref := "PlateroomprinterModel$Row") (index := 50) (ci := 15) (k := 1) hq_80 ho_80 ⟨rfl, by decide, ei_15, r_m_9_64, .inl rfl⟩ (by decide +kernel) rfl : e_Sn 80 47 (o_getf (e_f1 15 1) 50)) t_80_50
noncomputable def n_80_44 : e_Y := u_old (o_cast 15 47) n_80_47
theorem t_80_44 : e_Sn 80 44 (e_un n_80_44) := u_oldT (s_cast (index := 29) hq_80 ho_80 r_m_9_55 (.inl ⟨by decide, rfl⟩) (by decide +kernel) rfl : e_Sn 80 44 (o_cast 15 47)) t_80_47 (e_cg_cast 15)
noncomputable def n_80_41 : e_Y := u_callV 19 110 2 21 2 n_110_0 n_80_44
theorem t_80_41 : e_Sn 80 41 (e_un n_80_41) := u_callVT rfl (s_callV (ci := 19) (C := er_19) (T := et_19) (N := 3) (index := 42) hq_80 ho_80 hy_110 hp_110 hc_110 hi_110 hd_110 r_m_9_121 hs_110 r_m_8_230 rfl (by decide +kernel) rfl : e_Sn 80 41 (o_callV (e_s1 19 110 2) 2 44)) t_110_0 t_80_44
noncomputable def n_80_40 : e_Y := u_push (.inl 2147483648) n_80_41
theorem t_80_40 : e_Sn 80 40 (e_un n_80_40) := u_pushT (s_iconst (n := (0)) hq_80 (by decide +kernel) rfl ⟨by decide +kernel, by decide +kernel⟩ : e_Sn 80 40 (o_push (.inl 2147483648) 41)) t_80_41
noncomputable def n_80_37 : e_Y := u_getf 16 1 (u_old (o_getf (e_f1 16 1) 40) n_80_40) n_80_40
theorem t_80_37 : e_Sn 80 37 (e_un n_80_37) := u_getfT (s_getf (C := er_16) (T := et_16) (N := 5) (ref := "PlateroomprinterModel$Run") (index := 12) (ci := 16) (k := 1) hq_80 ho_80 ⟨rfl, by decide, ei_16, r_m_9_90, .inl rfl⟩ (by decide +kernel) rfl : e_Sn 80 37 (o_getf (e_f1 16 1) 40)) t_80_40
noncomputable def n_80_36 : e_Y := u_ld f_okA f_l0 n_80_37
theorem t_80_36 : e_Sn 80 36 (e_un n_80_36) := u_ldAT f_l0_eq (s_aload (i := .aload_n 0) (len := 1) hq_80 (by decide +kernel) rfl (.inr ⟨0, rfl, rfl, rfl⟩) : e_Sn 80 36 (o_load e_okR 0 37)) t_80_37
noncomputable def n_80_33 : e_Y := n_80_52
theorem t_80_33 : e_Sn 80 33 (e_un n_80_33) := u_gotoT (s_goto (off := (19)) hq_80 (by decide +kernel) rfl : e_Sn 80 33 (o_goto 52)) t_80_52
noncomputable def n_80_30 : e_Y := u_getf 15 1 (u_old (o_getf (e_f1 15 1) 33) n_80_33) n_80_33
theorem t_80_30 : e_Sn 80 30 (e_un n_80_30) := u_getfT (s_getf (C := er_15) (T := et_15) (N := 8) (ref := "PlateroomprinterModel$Row") (index := 50) (ci := 15) (k := 1) hq_80 ho_80 ⟨rfl, by decide, ei_15, r_m_9_64, .inl rfl⟩ (by decide +kernel) rfl : e_Sn 80 30 (o_getf (e_f1 15 1) 33)) t_80_33
noncomputable def n_80_27 : e_Y := u_old (o_cast 15 30) n_80_30
theorem t_80_27 : e_Sn 80 27 (e_un n_80_27) := u_oldT (s_cast (index := 29) hq_80 ho_80 r_m_9_55 (.inl ⟨by decide, rfl⟩) (by decide +kernel) rfl : e_Sn 80 27 (o_cast 15 30)) t_80_30 (e_cg_cast 15)
noncomputable def n_80_24 : e_Y := u_callV 19 110 2 21 2 n_110_0 n_80_27
theorem t_80_24 : e_Sn 80 24 (e_un n_80_24) := u_callVT rfl (s_callV (ci := 19) (C := er_19) (T := et_19) (N := 3) (index := 42) hq_80 ho_80 hy_110 hp_110 hc_110 hi_110 hd_110 r_m_9_121 hs_110 r_m_8_230 rfl (by decide +kernel) rfl : e_Sn 80 24 (o_callV (e_s1 19 110 2) 2 27)) t_110_0 t_80_27
noncomputable def n_80_23 : e_Y := u_push (.inl 2147483648) n_80_24
theorem t_80_23 : e_Sn 80 23 (e_un n_80_23) := u_pushT (s_iconst (n := (0)) hq_80 (by decide +kernel) rfl ⟨by decide +kernel, by decide +kernel⟩ : e_Sn 80 23 (o_push (.inl 2147483648) 24)) t_80_24
noncomputable def n_80_20 : e_Y := u_getf 16 1 (u_old (o_getf (e_f1 16 1) 23) n_80_23) n_80_23
theorem t_80_20 : e_Sn 80 20 (e_un n_80_20) := u_getfT (s_getf (C := er_16) (T := et_16) (N := 5) (ref := "PlateroomprinterModel$Run") (index := 12) (ci := 16) (k := 1) hq_80 ho_80 ⟨rfl, by decide, ei_16, r_m_9_90, .inl rfl⟩ (by decide +kernel) rfl : e_Sn 80 20 (o_getf (e_f1 16 1) 23)) t_80_23
noncomputable def n_80_19 : e_Y := u_ld f_okA f_l0 n_80_20
theorem t_80_19 : e_Sn 80 19 (e_un n_80_19) := u_ldAT f_l0_eq (s_aload (i := .aload_n 0) (len := 1) hq_80 (by decide +kernel) rfl (.inr ⟨0, rfl, rfl, rfl⟩) : e_Sn 80 19 (o_load e_okR 0 20)) t_80_20
noncomputable def n_80_16 : e_Y := u_jmp y_ne (u_old2 (o_ceq 19 36) 19 n_80_19 n_80_36) n_80_19 n_80_36
theorem t_80_16 : e_Sn 80 16 (e_un n_80_16) := u_ceqT rfl (s_cne (off := (20)) hq_80 (by decide +kernel) rfl rfl : e_Sn 80 16 (o_ceq 19 36)) t_80_19 t_80_36
noncomputable def n_80_15 : e_Y := u_push (.inl 2147483649) n_80_16
theorem t_80_15 : e_Sn 80 15 (e_un n_80_15) := u_pushT (s_iconst (n := (1)) hq_80 (by decide +kernel) rfl ⟨by decide +kernel, by decide +kernel⟩ : e_Sn 80 15 (o_push (.inl 2147483649) 16)) t_80_16
noncomputable def n_80_12 : e_Y := u_callV 19 116 1 20 1 n_116_0 n_80_15
theorem t_80_12 : e_Sn 80 12 (e_un n_80_12) := u_callVT rfl (s_callV (ci := 19) (C := er_19) (T := et_19) (N := 3) (index := 38) hq_80 ho_80 hy_116 hp_116 hc_116 hi_116 hd_116 r_m_9_120 hs_116 r_m_8_181 rfl (by decide +kernel) rfl : e_Sn 80 12 (o_callV (e_s1 19 116 1) 1 15)) t_116_0 t_80_15
noncomputable def n_80_9 : e_Y := u_getf 16 1 (u_old (o_getf (e_f1 16 1) 12) n_80_12) n_80_12
theorem t_80_9 : e_Sn 80 9 (e_un n_80_9) := u_getfT (s_getf (C := er_16) (T := et_16) (N := 5) (ref := "PlateroomprinterModel$Run") (index := 12) (ci := 16) (k := 1) hq_80 ho_80 ⟨rfl, by decide, ei_16, r_m_9_90, .inl rfl⟩ (by decide +kernel) rfl : e_Sn 80 9 (o_getf (e_f1 16 1) 12)) t_80_12
noncomputable def n_80_8 : e_Y := u_ld f_okA f_l0 n_80_9
theorem t_80_8 : e_Sn 80 8 (e_un n_80_8) := u_ldAT f_l0_eq (s_aload (i := .aload_n 0) (len := 1) hq_80 (by decide +kernel) rfl (.inr ⟨0, rfl, rfl, rfl⟩) : e_Sn 80 8 (o_load e_okR 0 9)) t_80_9
noncomputable def n_80_7 : e_Y := u_ld f_okA f_l0 n_80_8
theorem t_80_7 : e_Sn 80 7 (e_un n_80_7) := u_ldAT f_l0_eq (s_aload (i := .aload_n 0) (len := 1) hq_80 (by decide +kernel) rfl (.inr ⟨0, rfl, rfl, rfl⟩) : e_Sn 80 7 (o_load e_okR 0 8)) t_80_8
noncomputable def n_80_4 : e_Y := u_if y_ne0 (u_old2 (o_ifeq 146 7) 146 n_80_146 n_80_7) n_80_146 n_80_7
theorem t_80_4 : e_Sn 80 4 (e_un n_80_4) := u_ifeqT rfl (s_ifeq (off := (142)) hq_80 (by decide +kernel) rfl rfl : e_Sn 80 4 (o_ifeq 146 7)) t_80_146 t_80_7
noncomputable def n_80_1 : e_Y := u_callV 16 85 2 21 1 n_85_0 n_80_4
theorem t_80_1 : e_Sn 80 1 (e_un n_80_1) := u_callVT rfl (s_callV (ci := 16) (C := er_16) (T := et_16) (N := 5) (index := 46) hq_80 ho_80 hy_85 hp_85 hc_85 hi_85 hd_85 (r_k9 (List.mem_of_getElem? (i := 111) (by decide +kernel))) hs_85 (List.mem_of_getElem? (i := 16) (by decide +kernel)) rfl (by decide +kernel) rfl : e_Sn 80 1 (o_callV (e_s1 16 85 2) 1 4)) t_85_0 t_80_4
noncomputable def n_80_0 : e_Y := u_ld f_okA f_l0 n_80_1
theorem t_80_0 : e_Sn 80 0 (e_un n_80_0) := u_ldAT f_l0_eq (s_aload (i := .aload_n 0) (len := 1) hq_80 (by decide +kernel) rfl (.inr ⟨0, rfl, rfl, rfl⟩) : e_Sn 80 0 (o_load e_okR 0 1)) t_80_1
noncomputable def e_tb_80 : e_X := (e_lf 0 (e_un n_80_0))
theorem e_tk_80 : e_Tb 80 e_tb_80 := (e_lfT t_80_0)
theorem hq_70 : (e_ml[70]?).map (·.2.1) = some prog_14_method_31_code := Eq.trans (congrArg (Option.map (fun e => e.2.1)) hy_70) rfl
theorem ho_70 : (e_ml[70]?).map (·.1.cls) = some "PlateroomprinterModel" := Eq.trans (congrArg (Option.map (fun e => e.1.cls)) hy_70) rfl
theorem hr_70 : (e_ml[70]?).map (·.2.2.2) = some (some .int) := Eq.trans (congrArg (Option.map (fun e => e.2.2.2)) hy_70) rfl
noncomputable def n_70_74 : e_Y := u_retI
theorem t_70_74 : e_Sn 70 74 (e_un n_70_74) := u_retIT (s_iret hq_70 hr_70 (by decide +kernel) : e_Sn 70 74 (o_ret e_okI))
noncomputable def n_70_71 : e_Y := u_callV 12 65 4 23 4 n_65_0 n_70_74
theorem t_70_71 : e_Sn 70 71 (e_un n_70_71) := u_callVT rfl (s_callV (ci := 12) (C := er_12) (T := et_12) (N := 5) (index := 177) hq_70 ho_70 hy_65 hp_65 hc_65 hi_65 hd_65 (r_k12 (List.mem_of_getElem? (i := 110) (by decide +kernel))) hs_65 (List.mem_of_getElem? (i := 34) (by decide +kernel)) rfl (by decide +kernel) rfl : e_Sn 70 71 (o_callV (e_s1 12 65 4) 4 74)) t_65_0 t_70_74
noncomputable def n_70_70 : e_Y := u_push (.inl 2147483647) n_70_71
theorem t_70_70 : e_Sn 70 70 (e_un n_70_70) := u_pushT (s_iconst (n := (-1)) hq_70 (by decide +kernel) rfl ⟨by decide +kernel, by decide +kernel⟩ : e_Sn 70 70 (o_push (.inl 2147483647) 71)) t_70_71
noncomputable def n_70_69 : e_Y := u_push (.inl 2147483647) n_70_70
theorem t_70_69 : e_Sn 70 69 (e_un n_70_69) := u_pushT (s_iconst (n := (-1)) hq_70 (by decide +kernel) rfl ⟨by decide +kernel, by decide +kernel⟩ : e_Sn 70 69 (o_push (.inl 2147483647) 70)) t_70_70
noncomputable def n_70_68 : e_Y := u_push (.inl 2147483648) n_70_69
theorem t_70_68 : e_Sn 70 68 (e_un n_70_68) := u_pushT (s_iconst (n := (0)) hq_70 (by decide +kernel) rfl ⟨by decide +kernel, by decide +kernel⟩ : e_Sn 70 68 (o_push (.inl 2147483648) 69)) t_70_69
noncomputable def n_70_67 : e_Y := u_ld f_okA f_l0 n_70_68
theorem t_70_67 : e_Sn 70 67 (e_un n_70_67) := u_ldAT f_l0_eq (s_aload (i := .aload_n 0) (len := 1) hq_70 (by decide +kernel) rfl (.inr ⟨0, rfl, rfl, rfl⟩) : e_Sn 70 67 (o_load e_okR 0 68)) t_70_68
noncomputable def n_70_64 : e_Y := u_putf 12 2 f_okA (u_old (o_putf (e_f1 12 2) e_okR 67) n_70_67) n_70_67
theorem t_70_64 : e_Sn 70 64 (e_un n_70_64) := u_putfT (fun _ => f_okA_eq) (s_putf (ty0 := ey_12) (ok := e_okR) (C := er_12) (T := et_12) (N := 5) (ref := "PlateroomprinterModel") (index := 19) (ci := 12) (k := 2) hq_70 ho_70 ⟨rfl, by decide, ei_12, r_m_8_143, .inl rfl⟩ eo_12 en_12 e_oksR (.inl rfl) (by decide +kernel) rfl : e_Sn 70 64 (o_putf (e_f1 12 2) e_okR 67)) t_70_67
noncomputable def n_70_61 : e_Y := u_callI 105 1 20 1 n_105_0 n_70_64
theorem t_70_61 : e_Sn 70 61 (e_un n_70_61) := u_callIT rfl (s_callI (index := 18) hq_70 ho_70 hy_105 hp_105 hc_105 hi_105 hd_105 r_m_8_140 rfl rfl hs_105 (by decide +kernel) rfl : e_Sn 70 61 (o_callI 105 1 1 64)) t_105_0 t_70_64
noncomputable def n_70_60 : e_Y := u_old (o_dup 61) n_70_61
theorem t_70_60 : e_Sn 70 60 (e_un n_70_60) := u_oldT (s_dup hq_70 (by decide +kernel) rfl : e_Sn 70 60 (o_dup 61)) t_70_61 e_cg_dup
noncomputable def n_70_57 : e_Y := u_tab (o_new 19 3 ef_19 60)
theorem t_70_57 : e_Sn 70 57 (e_un n_70_57) := u_tabT (s_new (index := 16) (ci := 19) (N := 3) (C := er_19) (T := et_19) (ty0 := ey_19) (fv := eg_19) hq_70 ho_70 rfl ei_19 eo_19 r_m_8_139 r_m_7_174 r_m_1_18 eh_19 rfl (e_newrel ek_19) (by decide +kernel) rfl : e_Sn 70 57 (o_new 19 3 ef_19 60))
noncomputable def n_70_56 : e_Y := u_ld f_okA f_l0 n_70_57
theorem t_70_56 : e_Sn 70 56 (e_un n_70_56) := u_ldAT f_l0_eq (s_aload (i := .aload_n 0) (len := 1) hq_70 (by decide +kernel) rfl (.inr ⟨0, rfl, rfl, rfl⟩) : e_Sn 70 56 (o_load e_okR 0 57)) t_70_57
noncomputable def n_70_53 : e_Y := u_putf 12 1 f_okA (u_old (o_putf (e_f1 12 1) e_okR 56) n_70_56) n_70_56
theorem t_70_53 : e_Sn 70 53 (e_un n_70_53) := u_putfT (fun _ => f_okA_eq) (s_putf (ty0 := ey_12) (ok := e_okR) (C := er_12) (T := et_12) (N := 5) (ref := "PlateroomprinterModel") (index := 10) (ci := 12) (k := 1) hq_70 ho_70 ⟨rfl, by decide, ei_12, r_m_8_142, .inl rfl⟩ eo_12 en_12 e_oksR (.inl rfl) (by decide +kernel) rfl : e_Sn 70 53 (o_putf (e_f1 12 1) e_okR 56)) t_70_56
noncomputable def n_70_52 : e_Y := u_ld f_okA f_l1 n_70_53
theorem t_70_52 : e_Sn 70 52 (e_un n_70_52) := u_ldAT f_l1_eq (s_aload (i := .aload_n 1) (len := 1) hq_70 (by decide +kernel) rfl (.inr ⟨1, rfl, rfl, rfl⟩) : e_Sn 70 52 (o_load e_okR 1 53)) t_70_53
noncomputable def n_70_51 : e_Y := u_ld f_okA f_l0 n_70_52
theorem t_70_51 : e_Sn 70 51 (e_un n_70_51) := u_ldAT f_l0_eq (s_aload (i := .aload_n 0) (len := 1) hq_70 (by decide +kernel) rfl (.inr ⟨0, rfl, rfl, rfl⟩) : e_Sn 70 51 (o_load e_okR 0 52)) t_70_52
noncomputable def n_70_30 : e_Y := n_70_51
theorem t_70_30 : e_Sn 70 30 (e_un n_70_30) := u_gotoT (s_goto (off := (21)) hq_70 (by decide +kernel) rfl : e_Sn 70 30 (o_goto 51)) t_70_51
noncomputable def n_70_27 : e_Y := u_callV 16 80 2 21 1 n_80_0 n_70_30
theorem t_70_27 : e_Sn 70 27 (e_un n_70_27) := u_callVT rfl (s_callV (ci := 16) (C := er_16) (T := et_16) (N := 5) (index := 166) hq_70 ho_70 hy_80 hp_80 hc_80 hi_80 hd_80 (r_k9 (List.mem_of_getElem? (i := 107) (by decide +kernel))) hs_80 (r_k9 (List.mem_of_getElem? (i := 109) (by decide +kernel))) rfl (by decide +kernel) rfl : e_Sn 70 27 (o_callV (e_s1 16 80 2) 1 30)) t_80_0 t_70_30
noncomputable def n_70_26 : e_Y := u_ld f_okA f_l2 n_70_27
theorem t_70_26 : e_Sn 70 26 (e_un n_70_26) := u_ldAT f_l2_eq (s_aload (i := .aload_n 2) (len := 1) hq_70 (by decide +kernel) rfl (.inr ⟨2, rfl, rfl, rfl⟩) : e_Sn 70 26 (o_load e_okR 2 27)) t_70_27
noncomputable def n_70_25 : e_Y := u_st f_okA f_s2 n_70_26
theorem t_70_25 : e_Sn 70 25 (e_un n_70_25) := u_stAT (fun _ _ _ => f_s2_eq) (s_astore (i := .astore_n 2) (len := 1) hq_70 (by decide +kernel) rfl (.inr ⟨2, rfl, rfl, rfl⟩) : e_Sn 70 25 (o_store e_okR 2 26)) t_70_26
noncomputable def n_70_22 : e_Y := u_callI 79 3 22 3 n_79_0 n_70_25
theorem t_70_22 : e_Sn 70 22 (e_un n_70_22) := u_callIT rfl (s_callI (index := 163) hq_70 ho_70 hy_79 hp_79 hc_79 hi_79 hd_79 (r_k9 (List.mem_of_getElem? (i := 49) (by decide +kernel))) rfl rfl hs_79 (by decide +kernel) rfl : e_Sn 70 22 (o_callI 79 3 3 25)) t_79_0 t_70_25
noncomputable def n_70_19 : e_Y := u_getf 12 2 (u_old (o_getf (e_f1 12 2) 22) n_70_22) n_70_22
theorem t_70_19 : e_Sn 70 19 (e_un n_70_19) := u_getfT (s_getf (C := er_12) (T := et_12) (N := 5) (ref := "PlateroomprinterModel") (index := 19) (ci := 12) (k := 2) hq_70 ho_70 ⟨rfl, by decide, ei_12, r_m_8_143, .inl rfl⟩ (by decide +kernel) rfl : e_Sn 70 19 (o_getf (e_f1 12 2) 22)) t_70_22
noncomputable def n_70_18 : e_Y := u_ld f_okA f_l0 n_70_19
theorem t_70_18 : e_Sn 70 18 (e_un n_70_18) := u_ldAT f_l0_eq (s_aload (i := .aload_n 0) (len := 1) hq_70 (by decide +kernel) rfl (.inr ⟨0, rfl, rfl, rfl⟩) : e_Sn 70 18 (o_load e_okR 0 19)) t_70_19
noncomputable def n_70_17 : e_Y := u_ld f_okA f_l1 n_70_18
theorem t_70_17 : e_Sn 70 17 (e_un n_70_17) := u_ldAT f_l1_eq (s_aload (i := .aload_n 1) (len := 1) hq_70 (by decide +kernel) rfl (.inr ⟨1, rfl, rfl, rfl⟩) : e_Sn 70 17 (o_load e_okR 1 18)) t_70_18
noncomputable def n_70_16 : e_Y := u_old (o_dup 17) n_70_17
theorem t_70_16 : e_Sn 70 16 (e_un n_70_16) := u_oldT (s_dup hq_70 (by decide +kernel) rfl : e_Sn 70 16 (o_dup 17)) t_70_17 e_cg_dup
noncomputable def n_70_13 : e_Y := u_tab (o_new 16 5 ef_16 16)
theorem t_70_13 : e_Sn 70 13 (e_un n_70_13) := u_tabT (s_new (index := 161) (ci := 16) (N := 5) (C := er_16) (T := et_16) (ty0 := ey_16) (fv := eg_16) hq_70 ho_70 rfl ei_16 eo_16 (r_k9 (List.mem_of_getElem? (i := 47) (by decide +kernel))) (r_k9 (List.mem_of_getElem? (i := 48) (by decide +kernel))) r_m_1_33 eh_16 rfl (e_newrel ek_16) (by decide +kernel) rfl : e_Sn 70 13 (o_new 16 5 ef_16 16))
noncomputable def n_70_12 : e_Y := u_st f_okA f_s1 n_70_13
theorem t_70_12 : e_Sn 70 12 (e_un n_70_12) := u_stAT (fun _ _ _ => f_s1_eq) (s_astore (i := .astore_n 1) (len := 1) hq_70 (by decide +kernel) rfl (.inr ⟨1, rfl, rfl, rfl⟩) : e_Sn 70 12 (o_store e_okR 1 13)) t_70_13
noncomputable def n_70_9 : e_Y := u_callV 14 76 3 22 1 n_76_0 n_70_12
theorem t_70_9 : e_Sn 70 9 (e_un n_70_9) := u_callVT rfl (s_callV (ci := 14) (C := er_14) (T := et_14) (N := 13) (index := 158) hq_70 ho_70 hy_76 hp_76 hc_76 hi_76 hd_76 (r_k8 (List.mem_of_getElem? (i := 221) (by decide +kernel))) hs_76 (r_k8 (List.mem_of_getElem? (i := 223) (by decide +kernel))) rfl (by decide +kernel) rfl : e_Sn 70 9 (o_callV (e_s1 14 76 3) 1 12)) t_76_0 t_70_12
noncomputable def n_70_6 : e_Y := u_getf 12 1 (u_old (o_getf (e_f1 12 1) 9) n_70_9) n_70_9
theorem t_70_6 : e_Sn 70 6 (e_un n_70_6) := u_getfT (s_getf (C := er_12) (T := et_12) (N := 5) (ref := "PlateroomprinterModel") (index := 10) (ci := 12) (k := 1) hq_70 ho_70 ⟨rfl, by decide, ei_12, r_m_8_142, .inl rfl⟩ (by decide +kernel) rfl : e_Sn 70 6 (o_getf (e_f1 12 1) 9)) t_70_9
noncomputable def n_70_5 : e_Y := u_ld f_okA f_l0 n_70_6
theorem t_70_5 : e_Sn 70 5 (e_un n_70_5) := u_ldAT f_l0_eq (s_aload (i := .aload_n 0) (len := 1) hq_70 (by decide +kernel) rfl (.inr ⟨0, rfl, rfl, rfl⟩) : e_Sn 70 5 (o_load e_okR 0 6)) t_70_6
noncomputable def n_70_2 : e_Y := u_putf 12 0 f_okI (u_old (o_putf (e_f1 12 0) e_okI 5) n_70_5) n_70_5
theorem t_70_2 : e_Sn 70 2 (e_un n_70_2) := u_putfT (fun _ => f_okI_eq) (s_putf (ty0 := ey_12) (ok := e_okI) (C := er_12) (T := et_12) (N := 5) (ref := "PlateroomprinterModel") (index := 124) (ci := 12) (k := 0) hq_70 ho_70 ⟨rfl, by decide, ei_12, r_m_8_141, .inl rfl⟩ eo_12 en_12 e_oksI (.inl rfl) (by decide +kernel) rfl : e_Sn 70 2 (o_putf (e_f1 12 0) e_okI 5)) t_70_5
noncomputable def n_70_1 : e_Y := u_push (.inl 2147483648) n_70_2
theorem t_70_1 : e_Sn 70 1 (e_un n_70_1) := u_pushT (s_iconst (n := (0)) hq_70 (by decide +kernel) rfl ⟨by decide +kernel, by decide +kernel⟩ : e_Sn 70 1 (o_push (.inl 2147483648) 2)) t_70_2
noncomputable def n_70_0 : e_Y := u_ld f_okA f_l0 n_70_1
theorem t_70_0 : e_Sn 70 0 (e_un n_70_0) := u_ldAT f_l0_eq (s_aload (i := .aload_n 0) (len := 1) hq_70 (by decide +kernel) rfl (.inr ⟨0, rfl, rfl, rfl⟩) : e_Sn 70 0 (o_load e_okR 0 1)) t_70_1
noncomputable def e_tb_70 : e_X := (e_br 16 (e_lf 0 (e_un n_70_0)) (e_br 60 (e_lf 16 (e_un n_70_16)) (e_lf 60 (e_un n_70_60))))
theorem e_tk_70 : e_Tb 70 e_tb_70 := (e_brT (e_lfT t_70_0) (e_brT (e_lfT t_70_16) (e_lfT t_70_60)))
theorem hq_71 : (e_ml[71]?).map (·.2.1) = some prog_14_method_24_code := Eq.trans (congrArg (Option.map (fun e => e.2.1)) hy_71) rfl
theorem ho_71 : (e_ml[71]?).map (·.1.cls) = some "PlateroomprinterModel" := Eq.trans (congrArg (Option.map (fun e => e.1.cls)) hy_71) rfl
theorem hr_71 : (e_ml[71]?).map (·.2.2.2) = some (some .boolean) := Eq.trans (congrArg (Option.map (fun e => e.2.2.2)) hy_71) rfl
noncomputable def n_71_11 : e_Y := u_tab (o_ret e_okZ)
theorem t_71_11 : e_Sn 71 11 (e_un n_71_11) := u_tabT (s_zret hq_71 hr_71 (by decide +kernel) : e_Sn 71 11 (o_ret e_okZ))
noncomputable def n_71_8 : e_Y := u_callV 12 69 3 22 3 n_69_0 n_71_11
theorem t_71_8 : e_Sn 71 8 (e_un n_71_8) := u_callVT rfl (s_callV (ci := 12) (C := er_12) (T := et_12) (N := 5) (index := 128) hq_71 ho_71 hy_69 hp_69 hc_69 hi_69 hd_69 r_m_8_175 hs_69 (List.mem_of_getElem? (i := 14) (by decide +kernel)) rfl (by decide +kernel) rfl : e_Sn 71 8 (o_callV (e_s1 12 69 3) 3 11)) t_69_0 t_71_11
noncomputable def n_71_7 : e_Y := u_ld f_okI f_l2 n_71_8
theorem t_71_7 : e_Sn 71 7 (e_un n_71_7) := u_ldIT f_l2_eq (s_iload (i := .iload_n 2) (len := 1) hq_71 (by decide +kernel) rfl (.inr ⟨2, rfl, rfl, rfl⟩) : e_Sn 71 7 (o_load e_okI 2 8)) t_71_8
noncomputable def n_71_6 : e_Y := u_ld f_okI f_l1 n_71_7
theorem t_71_6 : e_Sn 71 6 (e_un n_71_6) := u_ldIT f_l1_eq (s_iload (i := .iload_n 1) (len := 1) hq_71 (by decide +kernel) rfl (.inr ⟨1, rfl, rfl, rfl⟩) : e_Sn 71 6 (o_load e_okI 1 7)) t_71_7
noncomputable def n_71_5 : e_Y := u_ld f_okA f_l0 n_71_6
theorem t_71_5 : e_Sn 71 5 (e_un n_71_5) := u_ldAT f_l0_eq (s_aload (i := .aload_n 0) (len := 1) hq_71 (by decide +kernel) rfl (.inr ⟨0, rfl, rfl, rfl⟩) : e_Sn 71 5 (o_load e_okR 0 6)) t_71_6
noncomputable def n_71_2 : e_Y := u_putf 12 0 f_okI (u_old (o_putf (e_f1 12 0) e_okI 5) n_71_5) n_71_5
theorem t_71_2 : e_Sn 71 2 (e_un n_71_2) := u_putfT (fun _ => f_okI_eq) (s_putf (ty0 := ey_12) (ok := e_okI) (C := er_12) (T := et_12) (N := 5) (ref := "PlateroomprinterModel") (index := 124) (ci := 12) (k := 0) hq_71 ho_71 ⟨rfl, by decide, ei_12, r_m_8_141, .inl rfl⟩ eo_12 en_12 e_oksI (.inl rfl) (by decide +kernel) rfl : e_Sn 71 2 (o_putf (e_f1 12 0) e_okI 5)) t_71_5
noncomputable def n_71_1 : e_Y := u_push (.inl 2147483648) n_71_2
theorem t_71_1 : e_Sn 71 1 (e_un n_71_1) := u_pushT (s_iconst (n := (0)) hq_71 (by decide +kernel) rfl ⟨by decide +kernel, by decide +kernel⟩ : e_Sn 71 1 (o_push (.inl 2147483648) 2)) t_71_2
noncomputable def n_71_0 : e_Y := u_ld f_okA f_l0 n_71_1
theorem t_71_0 : e_Sn 71 0 (e_un n_71_0) := u_ldAT f_l0_eq (s_aload (i := .aload_n 0) (len := 1) hq_71 (by decide +kernel) rfl (.inr ⟨0, rfl, rfl, rfl⟩) : e_Sn 71 0 (o_load e_okR 0 1)) t_71_1
noncomputable def e_tb_71 : e_X := (e_lf 0 (e_un n_71_0))
theorem e_tk_71 : e_Tb 71 e_tb_71 := (e_lfT t_71_0)
theorem hq_72 : (e_ml[72]?).map (·.2.1) = some prog_14_method_27_code := Eq.trans (congrArg (Option.map (fun e => e.2.1)) hy_72) rfl
theorem ho_72 : (e_ml[72]?).map (·.1.cls) = some "PlateroomprinterModel" := Eq.trans (congrArg (Option.map (fun e => e.1.cls)) hy_72) rfl
theorem hr_72 : (e_ml[72]?).map (·.2.2.2) = some (some .int) := Eq.trans (congrArg (Option.map (fun e => e.2.2.2)) hy_72) rfl
noncomputable def n_72_139 : e_Y := u_retI
theorem t_72_139 : e_Sn 72 139 (e_un n_72_139) := u_retIT (s_iret hq_72 hr_72 (by decide +kernel) : e_Sn 72 139 (o_ret e_okI))
noncomputable def n_72_136 : e_Y := u_callV 19 116 1 20 1 n_116_0 n_72_139
theorem t_72_136 : e_Sn 72 136 (e_un n_72_136) := u_callVT rfl (s_callV (ci := 19) (C := er_19) (T := et_19) (N := 3) (index := 74) hq_72 ho_72 hy_116 hp_116 hc_116 hi_116 hd_116 r_m_8_179 hs_116 r_m_8_181 rfl (by decide +kernel) rfl : e_Sn 72 136 (o_callV (e_s1 19 116 1) 1 139)) t_116_0 t_72_139
noncomputable def n_72_133 : e_Y := u_getf 12 2 (u_old (o_getf (e_f1 12 2) 136) n_72_136) n_72_136
theorem t_72_133 : e_Sn 72 133 (e_un n_72_133) := u_getfT (s_getf (C := er_12) (T := et_12) (N := 5) (ref := "PlateroomprinterModel") (index := 19) (ci := 12) (k := 2) hq_72 ho_72 ⟨rfl, by decide, ei_12, r_m_8_143, .inl rfl⟩ (by decide +kernel) rfl : e_Sn 72 133 (o_getf (e_f1 12 2) 136)) t_72_136
noncomputable def n_72_132 : e_Y := u_ld f_okA f_l0 n_72_133
theorem t_72_132 : e_Sn 72 132 (e_un n_72_132) := u_ldAT f_l0_eq (s_aload (i := .aload_n 0) (len := 1) hq_72 (by decide +kernel) rfl (.inr ⟨0, rfl, rfl, rfl⟩) : e_Sn 72 132 (o_load e_okR 0 133)) t_72_133
noncomputable def n_72_131 : e_Y := u_pop n_72_132
theorem t_72_131 : e_Sn 72 131 (e_un n_72_131) := u_popT (s_pop hq_72 (by decide +kernel) rfl : e_Sn 72 131 (o_pop 132)) t_72_132
noncomputable def n_72_128 : e_Y := u_callV 19 106 2 21 2 n_106_0 n_72_131
theorem t_72_128 : e_Sn 72 128 (e_un n_72_128) := u_callVT rfl (s_callV (ci := 19) (C := er_19) (T := et_19) (N := 3) (index := 88) hq_72 ho_72 hy_106 hp_106 hc_106 hi_106 hd_106 r_m_8_183 hs_106 r_m_8_5 rfl (by decide +kernel) rfl : e_Sn 72 128 (o_callV (e_s1 19 106 2) 2 131)) t_106_0 t_72_131
noncomputable def n_72_127 : e_Y := u_ast 0 f_okI (u_old (o_ast 0 e_okI 128) n_72_128) n_72_128
theorem t_72_127 : e_Sn 72 127 (e_un n_72_127) := u_astT (fun _ => f_okI_eq) (s_iast hq_72 (by decide +kernel) rfl : e_Sn 72 127 (o_ast 0 e_okI 128)) t_72_128
noncomputable def n_72_125 : e_Y := u_ld f_okI f_l6 n_72_127
theorem t_72_125 : e_Sn 72 125 (e_un n_72_125) := u_ldIT f_l6_eq (s_iload (i := .iload 6) (len := 2) hq_72 (by decide +kernel) rfl (.inl ⟨rfl, rfl⟩) : e_Sn 72 125 (o_load e_okI 6 127)) t_72_127
noncomputable def n_72_124 : e_Y := u_push (.inl 2147483649) n_72_125
theorem t_72_124 : e_Sn 72 124 (e_un n_72_124) := u_pushT (s_iconst (n := (1)) hq_72 (by decide +kernel) rfl ⟨by decide +kernel, by decide +kernel⟩ : e_Sn 72 124 (o_push (.inl 2147483649) 125)) t_72_125
noncomputable def n_72_123 : e_Y := u_old (o_dup 124) n_72_124
theorem t_72_123 : e_Sn 72 123 (e_un n_72_123) := u_oldT (s_dup hq_72 (by decide +kernel) rfl : e_Sn 72 123 (o_dup 124)) t_72_124 e_cg_dup
noncomputable def n_72_122 : e_Y := u_ast 0 f_okI (u_old (o_ast 0 e_okI 123) n_72_123) n_72_123
theorem t_72_122 : e_Sn 72 122 (e_un n_72_122) := u_astT (fun _ => f_okI_eq) (s_iast hq_72 (by decide +kernel) rfl : e_Sn 72 122 (o_ast 0 e_okI 123)) t_72_123
noncomputable def n_72_120 : e_Y := u_ld f_okI f_l5 n_72_122
theorem t_72_120 : e_Sn 72 120 (e_un n_72_120) := u_ldIT f_l5_eq (s_iload (i := .iload 5) (len := 2) hq_72 (by decide +kernel) rfl (.inl ⟨rfl, rfl⟩) : e_Sn 72 120 (o_load e_okI 5 122)) t_72_122
noncomputable def n_72_119 : e_Y := u_push (.inl 2147483648) n_72_120
theorem t_72_119 : e_Sn 72 119 (e_un n_72_119) := u_pushT (s_iconst (n := (0)) hq_72 (by decide +kernel) rfl ⟨by decide +kernel, by decide +kernel⟩ : e_Sn 72 119 (o_push (.inl 2147483648) 120)) t_72_120
noncomputable def n_72_118 : e_Y := u_old (o_dup 119) n_72_119
theorem t_72_118 : e_Sn 72 118 (e_un n_72_118) := u_oldT (s_dup hq_72 (by decide +kernel) rfl : e_Sn 72 118 (o_dup 119)) t_72_119 e_cg_dup
noncomputable def n_72_116 : e_Y := u_tab (o_newa 0 (e_I 2147483648) 118)
theorem t_72_116 : e_Sn 72 116 (e_un n_72_116) := u_tabT (s_newI r_m_1_78 hq_72 (by decide +kernel) rfl : e_Sn 72 116 (o_newa 0 (e_I 2147483648) 118))
noncomputable def n_72_115 : e_Y := u_push (.inl 2147483650) n_72_116
theorem t_72_115 : e_Sn 72 115 (e_un n_72_115) := u_pushT (s_iconst (n := (2)) hq_72 (by decide +kernel) rfl ⟨by decide +kernel, by decide +kernel⟩ : e_Sn 72 115 (o_push (.inl 2147483650) 116)) t_72_116
noncomputable def n_72_112 : e_Y := u_getf 12 2 (u_old (o_getf (e_f1 12 2) 115) n_72_115) n_72_115
theorem t_72_112 : e_Sn 72 112 (e_un n_72_112) := u_getfT (s_getf (C := er_12) (T := et_12) (N := 5) (ref := "PlateroomprinterModel") (index := 19) (ci := 12) (k := 2) hq_72 ho_72 ⟨rfl, by decide, ei_12, r_m_8_143, .inl rfl⟩ (by decide +kernel) rfl : e_Sn 72 112 (o_getf (e_f1 12 2) 115)) t_72_115
noncomputable def n_72_111 : e_Y := u_ld f_okA f_l0 n_72_112
theorem t_72_111 : e_Sn 72 111 (e_un n_72_111) := u_ldAT f_l0_eq (s_aload (i := .aload_n 0) (len := 1) hq_72 (by decide +kernel) rfl (.inr ⟨0, rfl, rfl, rfl⟩) : e_Sn 72 111 (o_load e_okR 0 112)) t_72_112
noncomputable def n_72_110 : e_Y := u_pop n_72_111
theorem t_72_110 : e_Sn 72 110 (e_un n_72_110) := u_popT (s_pop hq_72 (by decide +kernel) rfl : e_Sn 72 110 (o_pop 111)) t_72_111
noncomputable def n_72_107 : e_Y := u_callV 19 106 2 21 2 n_106_0 n_72_110
theorem t_72_107 : e_Sn 72 107 (e_un n_72_107) := u_callVT rfl (s_callV (ci := 19) (C := er_19) (T := et_19) (N := 3) (index := 88) hq_72 ho_72 hy_106 hp_106 hc_106 hi_106 hd_106 r_m_8_183 hs_106 r_m_8_5 rfl (by decide +kernel) rfl : e_Sn 72 107 (o_callV (e_s1 19 106 2) 2 110)) t_106_0 t_72_110
noncomputable def n_72_106 : e_Y := u_ast 0 f_okI (u_old (o_ast 0 e_okI 107) n_72_107) n_72_107
theorem t_72_106 : e_Sn 72 106 (e_un n_72_106) := u_astT (fun _ => f_okI_eq) (s_iast hq_72 (by decide +kernel) rfl : e_Sn 72 106 (o_ast 0 e_okI 107)) t_72_107
noncomputable def n_72_104 : e_Y := u_ld f_okI f_l4 n_72_106
theorem t_72_104 : e_Sn 72 104 (e_un n_72_104) := u_ldIT f_l4_eq (s_iload (i := .iload 4) (len := 2) hq_72 (by decide +kernel) rfl (.inl ⟨rfl, rfl⟩) : e_Sn 72 104 (o_load e_okI 4 106)) t_72_106
noncomputable def n_72_103 : e_Y := u_push (.inl 2147483649) n_72_104
theorem t_72_103 : e_Sn 72 103 (e_un n_72_103) := u_pushT (s_iconst (n := (1)) hq_72 (by decide +kernel) rfl ⟨by decide +kernel, by decide +kernel⟩ : e_Sn 72 103 (o_push (.inl 2147483649) 104)) t_72_104
noncomputable def n_72_102 : e_Y := u_old (o_dup 103) n_72_103
theorem t_72_102 : e_Sn 72 102 (e_un n_72_102) := u_oldT (s_dup hq_72 (by decide +kernel) rfl : e_Sn 72 102 (o_dup 103)) t_72_103 e_cg_dup
noncomputable def n_72_101 : e_Y := u_ast 0 f_okI (u_old (o_ast 0 e_okI 102) n_72_102) n_72_102
theorem t_72_101 : e_Sn 72 101 (e_un n_72_101) := u_astT (fun _ => f_okI_eq) (s_iast hq_72 (by decide +kernel) rfl : e_Sn 72 101 (o_ast 0 e_okI 102)) t_72_102
noncomputable def n_72_100 : e_Y := u_ld f_okI f_l3 n_72_101
theorem t_72_100 : e_Sn 72 100 (e_un n_72_100) := u_ldIT f_l3_eq (s_iload (i := .iload_n 3) (len := 1) hq_72 (by decide +kernel) rfl (.inr ⟨3, rfl, rfl, rfl⟩) : e_Sn 72 100 (o_load e_okI 3 101)) t_72_101
noncomputable def n_72_99 : e_Y := u_push (.inl 2147483648) n_72_100
theorem t_72_99 : e_Sn 72 99 (e_un n_72_99) := u_pushT (s_iconst (n := (0)) hq_72 (by decide +kernel) rfl ⟨by decide +kernel, by decide +kernel⟩ : e_Sn 72 99 (o_push (.inl 2147483648) 100)) t_72_100
noncomputable def n_72_98 : e_Y := u_old (o_dup 99) n_72_99
theorem t_72_98 : e_Sn 72 98 (e_un n_72_98) := u_oldT (s_dup hq_72 (by decide +kernel) rfl : e_Sn 72 98 (o_dup 99)) t_72_99 e_cg_dup
noncomputable def n_72_96 : e_Y := u_tab (o_newa 0 (e_I 2147483648) 98)
theorem t_72_96 : e_Sn 72 96 (e_un n_72_96) := u_tabT (s_newI r_m_1_78 hq_72 (by decide +kernel) rfl : e_Sn 72 96 (o_newa 0 (e_I 2147483648) 98))
noncomputable def n_72_95 : e_Y := u_push (.inl 2147483650) n_72_96
theorem t_72_95 : e_Sn 72 95 (e_un n_72_95) := u_pushT (s_iconst (n := (2)) hq_72 (by decide +kernel) rfl ⟨by decide +kernel, by decide +kernel⟩ : e_Sn 72 95 (o_push (.inl 2147483650) 96)) t_72_96
noncomputable def n_72_92 : e_Y := u_getf 12 2 (u_old (o_getf (e_f1 12 2) 95) n_72_95) n_72_95
theorem t_72_92 : e_Sn 72 92 (e_un n_72_92) := u_getfT (s_getf (C := er_12) (T := et_12) (N := 5) (ref := "PlateroomprinterModel") (index := 19) (ci := 12) (k := 2) hq_72 ho_72 ⟨rfl, by decide, ei_12, r_m_8_143, .inl rfl⟩ (by decide +kernel) rfl : e_Sn 72 92 (o_getf (e_f1 12 2) 95)) t_72_95
noncomputable def n_72_91 : e_Y := u_ld f_okA f_l0 n_72_92
theorem t_72_91 : e_Sn 72 91 (e_un n_72_91) := u_ldAT f_l0_eq (s_aload (i := .aload_n 0) (len := 1) hq_72 (by decide +kernel) rfl (.inr ⟨0, rfl, rfl, rfl⟩) : e_Sn 72 91 (o_load e_okR 0 92)) t_72_92
noncomputable def n_72_90 : e_Y := u_pop n_72_91
theorem t_72_90 : e_Sn 72 90 (e_un n_72_90) := u_popT (s_pop hq_72 (by decide +kernel) rfl : e_Sn 72 90 (o_pop 91)) t_72_91
noncomputable def n_72_87 : e_Y := u_callV 19 106 2 21 2 n_106_0 n_72_90
theorem t_72_87 : e_Sn 72 87 (e_un n_72_87) := u_callVT rfl (s_callV (ci := 19) (C := er_19) (T := et_19) (N := 3) (index := 88) hq_72 ho_72 hy_106 hp_106 hc_106 hi_106 hd_106 r_m_8_183 hs_106 r_m_8_5 rfl (by decide +kernel) rfl : e_Sn 72 87 (o_callV (e_s1 19 106 2) 2 90)) t_106_0 t_72_90
noncomputable def n_72_86 : e_Y := u_ast 0 f_okI (u_old (o_ast 0 e_okI 87) n_72_87) n_72_87
theorem t_72_86 : e_Sn 72 86 (e_un n_72_86) := u_astT (fun _ => f_okI_eq) (s_iast hq_72 (by decide +kernel) rfl : e_Sn 72 86 (o_ast 0 e_okI 87)) t_72_87
noncomputable def n_72_85 : e_Y := u_ld f_okI f_l2 n_72_86
theorem t_72_85 : e_Sn 72 85 (e_un n_72_85) := u_ldIT f_l2_eq (s_iload (i := .iload_n 2) (len := 1) hq_72 (by decide +kernel) rfl (.inr ⟨2, rfl, rfl, rfl⟩) : e_Sn 72 85 (o_load e_okI 2 86)) t_72_86
noncomputable def n_72_84 : e_Y := u_push (.inl 2147483649) n_72_85
theorem t_72_84 : e_Sn 72 84 (e_un n_72_84) := u_pushT (s_iconst (n := (1)) hq_72 (by decide +kernel) rfl ⟨by decide +kernel, by decide +kernel⟩ : e_Sn 72 84 (o_push (.inl 2147483649) 85)) t_72_85
noncomputable def n_72_83 : e_Y := u_old (o_dup 84) n_72_84
theorem t_72_83 : e_Sn 72 83 (e_un n_72_83) := u_oldT (s_dup hq_72 (by decide +kernel) rfl : e_Sn 72 83 (o_dup 84)) t_72_84 e_cg_dup
noncomputable def n_72_82 : e_Y := u_ast 0 f_okI (u_old (o_ast 0 e_okI 83) n_72_83) n_72_83
theorem t_72_82 : e_Sn 72 82 (e_un n_72_82) := u_astT (fun _ => f_okI_eq) (s_iast hq_72 (by decide +kernel) rfl : e_Sn 72 82 (o_ast 0 e_okI 83)) t_72_83
noncomputable def n_72_81 : e_Y := u_ld f_okI f_l1 n_72_82
theorem t_72_81 : e_Sn 72 81 (e_un n_72_81) := u_ldIT f_l1_eq (s_iload (i := .iload_n 1) (len := 1) hq_72 (by decide +kernel) rfl (.inr ⟨1, rfl, rfl, rfl⟩) : e_Sn 72 81 (o_load e_okI 1 82)) t_72_82
noncomputable def n_72_80 : e_Y := u_push (.inl 2147483648) n_72_81
theorem t_72_80 : e_Sn 72 80 (e_un n_72_80) := u_pushT (s_iconst (n := (0)) hq_72 (by decide +kernel) rfl ⟨by decide +kernel, by decide +kernel⟩ : e_Sn 72 80 (o_push (.inl 2147483648) 81)) t_72_81
noncomputable def n_72_79 : e_Y := u_old (o_dup 80) n_72_80
theorem t_72_79 : e_Sn 72 79 (e_un n_72_79) := u_oldT (s_dup hq_72 (by decide +kernel) rfl : e_Sn 72 79 (o_dup 80)) t_72_80 e_cg_dup
noncomputable def n_72_77 : e_Y := u_tab (o_newa 0 (e_I 2147483648) 79)
theorem t_72_77 : e_Sn 72 77 (e_un n_72_77) := u_tabT (s_newI r_m_1_78 hq_72 (by decide +kernel) rfl : e_Sn 72 77 (o_newa 0 (e_I 2147483648) 79))
noncomputable def n_72_76 : e_Y := u_push (.inl 2147483650) n_72_77
theorem t_72_76 : e_Sn 72 76 (e_un n_72_76) := u_pushT (s_iconst (n := (2)) hq_72 (by decide +kernel) rfl ⟨by decide +kernel, by decide +kernel⟩ : e_Sn 72 76 (o_push (.inl 2147483650) 77)) t_72_77
noncomputable def n_72_73 : e_Y := u_getf 12 2 (u_old (o_getf (e_f1 12 2) 76) n_72_76) n_72_76
theorem t_72_73 : e_Sn 72 73 (e_un n_72_73) := u_getfT (s_getf (C := er_12) (T := et_12) (N := 5) (ref := "PlateroomprinterModel") (index := 19) (ci := 12) (k := 2) hq_72 ho_72 ⟨rfl, by decide, ei_12, r_m_8_143, .inl rfl⟩ (by decide +kernel) rfl : e_Sn 72 73 (o_getf (e_f1 12 2) 76)) t_72_76
noncomputable def n_72_72 : e_Y := u_ld f_okA f_l0 n_72_73
theorem t_72_72 : e_Sn 72 72 (e_un n_72_72) := u_ldAT f_l0_eq (s_aload (i := .aload_n 0) (len := 1) hq_72 (by decide +kernel) rfl (.inr ⟨0, rfl, rfl, rfl⟩) : e_Sn 72 72 (o_load e_okR 0 73)) t_72_73
noncomputable def n_72_67 : e_Y := u_if y_ne0 (u_old2 (o_ifeq 72 70) 72 n_72_72 (u_at 70)) n_72_72 (u_at 70)
theorem t_72_67 : e_Sn 72 67 (e_un n_72_67) := u_ifeqT rfl (s_ifeq (off := (5)) hq_72 (by decide +kernel) rfl rfl : e_Sn 72 67 (o_ifeq 72 70)) t_72_72 u_atT
noncomputable def n_72_64 : e_Y := u_callV 12 69 3 22 3 n_69_0 n_72_67
theorem t_72_64 : e_Sn 72 64 (e_un n_72_64) := u_callVT rfl (s_callV (ci := 12) (C := er_12) (T := et_12) (N := 5) (index := 128) hq_72 ho_72 hy_69 hp_69 hc_69 hi_69 hd_69 r_m_8_175 hs_69 (List.mem_of_getElem? (i := 14) (by decide +kernel)) rfl (by decide +kernel) rfl : e_Sn 72 64 (o_callV (e_s1 12 69 3) 3 67)) t_69_0 t_72_67
noncomputable def n_72_63 : e_Y := u_push (.inl 2147483650) n_72_64
theorem t_72_63 : e_Sn 72 63 (e_un n_72_63) := u_pushT (s_iconst (n := (2)) hq_72 (by decide +kernel) rfl ⟨by decide +kernel, by decide +kernel⟩ : e_Sn 72 63 (o_push (.inl 2147483650) 64)) t_72_64
noncomputable def n_72_62 : e_Y := u_push (.inl 2147483648) n_72_63
theorem t_72_62 : e_Sn 72 62 (e_un n_72_62) := u_pushT (s_iconst (n := (0)) hq_72 (by decide +kernel) rfl ⟨by decide +kernel, by decide +kernel⟩ : e_Sn 72 62 (o_push (.inl 2147483648) 63)) t_72_63
noncomputable def n_72_55 : e_Y := u_jmp y_le (u_old2 (o_cgt 58 62) 58 (u_at 58) n_72_62) (u_at 58) n_72_62
theorem t_72_55 : e_Sn 72 55 (e_un n_72_55) := u_cgtT rfl (s_cle (off := (7)) hq_72 (by decide +kernel) rfl rfl : e_Sn 72 55 (o_cgt 58 62)) u_atT t_72_62
noncomputable def n_72_52 : e_Y := u_push (.inl 2147484045) n_72_55
theorem t_72_52 : e_Sn 72 52 (e_un n_72_52) := u_pushT (s_sipush (n := (397)) hq_72 (by decide +kernel) rfl ⟨by decide +kernel, by decide +kernel⟩ : e_Sn 72 52 (o_push (.inl 2147484045) 55)) t_72_55
noncomputable def n_72_49 : e_Y := u_callV 19 116 1 20 1 n_116_0 n_72_52
theorem t_72_49 : e_Sn 72 49 (e_un n_72_49) := u_callVT rfl (s_callV (ci := 19) (C := er_19) (T := et_19) (N := 3) (index := 74) hq_72 ho_72 hy_116 hp_116 hc_116 hi_116 hd_116 r_m_8_179 hs_116 r_m_8_181 rfl (by decide +kernel) rfl : e_Sn 72 49 (o_callV (e_s1 19 116 1) 1 52)) t_116_0 t_72_52
noncomputable def n_72_46 : e_Y := u_getf 12 2 (u_old (o_getf (e_f1 12 2) 49) n_72_49) n_72_49
theorem t_72_46 : e_Sn 72 46 (e_un n_72_46) := u_getfT (s_getf (C := er_12) (T := et_12) (N := 5) (ref := "PlateroomprinterModel") (index := 19) (ci := 12) (k := 2) hq_72 ho_72 ⟨rfl, by decide, ei_12, r_m_8_143, .inl rfl⟩ (by decide +kernel) rfl : e_Sn 72 46 (o_getf (e_f1 12 2) 49)) t_72_49
noncomputable def n_72_45 : e_Y := u_ld f_okA f_l0 n_72_46
theorem t_72_45 : e_Sn 72 45 (e_un n_72_45) := u_ldAT f_l0_eq (s_aload (i := .aload_n 0) (len := 1) hq_72 (by decide +kernel) rfl (.inr ⟨0, rfl, rfl, rfl⟩) : e_Sn 72 45 (o_load e_okR 0 46)) t_72_46
noncomputable def n_72_44 : e_Y := u_ld f_okA f_l0 n_72_45
theorem t_72_44 : e_Sn 72 44 (e_un n_72_44) := u_ldAT f_l0_eq (s_aload (i := .aload_n 0) (len := 1) hq_72 (by decide +kernel) rfl (.inr ⟨0, rfl, rfl, rfl⟩) : e_Sn 72 44 (o_load e_okR 0 45)) t_72_45
noncomputable def n_72_41 : e_Y := u_if y_ne0 (u_old2 (o_ifeq 44 70) 44 n_72_44 (u_at 70)) n_72_44 (u_at 70)
theorem t_72_41 : e_Sn 72 41 (e_un n_72_41) := u_ifeqT rfl (s_ifne (off := (29)) hq_72 (by decide +kernel) rfl rfl : e_Sn 72 41 (o_ifeq 44 70)) t_72_44 u_atT
noncomputable def n_72_38 : e_Y := u_callV 12 71 3 22 3 n_71_0 n_72_41
theorem t_72_38 : e_Sn 72 38 (e_un n_72_38) := u_callVT rfl (s_callV (ci := 12) (C := er_12) (T := et_12) (N := 5) (index := 148) hq_72 ho_72 hy_71 hp_71 hc_71 hi_71 hd_71 r_m_8_171 hs_71 (List.mem_of_getElem? (i := 13) (by decide +kernel)) rfl (by decide +kernel) rfl : e_Sn 72 38 (o_callV (e_s1 12 71 3) 3 41)) t_71_0 t_72_41
noncomputable def n_72_37 : e_Y := u_push (.inl 2147483649) n_72_38
theorem t_72_37 : e_Sn 72 37 (e_un n_72_37) := u_pushT (s_iconst (n := (1)) hq_72 (by decide +kernel) rfl ⟨by decide +kernel, by decide +kernel⟩ : e_Sn 72 37 (o_push (.inl 2147483649) 38)) t_72_38
noncomputable def n_72_35 : e_Y := u_ld f_okI f_l7 n_72_37
theorem t_72_35 : e_Sn 72 35 (e_un n_72_35) := u_ldIT f_l7_eq (s_iload (i := .iload 7) (len := 2) hq_72 (by decide +kernel) rfl (.inl ⟨rfl, rfl⟩) : e_Sn 72 35 (o_load e_okI 7 37)) t_72_37
noncomputable def n_72_34 : e_Y := u_ld f_okA f_l0 n_72_35
theorem t_72_34 : e_Sn 72 34 (e_un n_72_34) := u_ldAT f_l0_eq (s_aload (i := .aload_n 0) (len := 1) hq_72 (by decide +kernel) rfl (.inr ⟨0, rfl, rfl, rfl⟩) : e_Sn 72 34 (o_load e_okR 0 35)) t_72_35
noncomputable def n_72_32 : e_Y := u_st f_okI f_s7 n_72_34
theorem t_72_32 : e_Sn 72 32 (e_un n_72_32) := u_stIT (fun _ _ _ => f_s7_eq) (s_istore (i := .istore 7) (len := 2) hq_72 (by decide +kernel) rfl (.inl ⟨rfl, rfl⟩) : e_Sn 72 32 (o_store e_okI 7 34)) t_72_34
noncomputable def n_72_31 : e_Y := u_push (.inl 2147483648) n_72_32
theorem t_72_31 : e_Sn 72 31 (e_un n_72_31) := u_pushT (s_iconst (n := (0)) hq_72 (by decide +kernel) rfl ⟨by decide +kernel, by decide +kernel⟩ : e_Sn 72 31 (o_push (.inl 2147483648) 32)) t_72_32
noncomputable def n_72_24 : e_Y := u_if y_ne0 (u_old2 (o_ifeq 31 27) 31 n_72_31 (u_at 27)) n_72_31 (u_at 27)
theorem t_72_24 : e_Sn 72 24 (e_un n_72_24) := u_ifeqT rfl (s_ifeq (off := (7)) hq_72 (by decide +kernel) rfl rfl : e_Sn 72 24 (o_ifeq 31 27)) t_72_31 u_atT
noncomputable def n_72_21 : e_Y := u_callS 67 2 21 2 n_67_0 n_72_24
theorem t_72_21 : e_Sn 72 21 (e_un n_72_21) := u_callST rfl (s_callS (index := 144) hq_72 ho_72 hy_67 hp_67 hc_67 hi_67 hd_67 r_m_8_161 hs_67 (by decide +kernel) rfl : e_Sn 72 21 (o_callS 67 2 2 24)) t_67_0 t_72_24
noncomputable def n_72_19 : e_Y := u_ld f_okI f_l6 n_72_21
theorem t_72_19 : e_Sn 72 19 (e_un n_72_19) := u_ldIT f_l6_eq (s_iload (i := .iload 6) (len := 2) hq_72 (by decide +kernel) rfl (.inl ⟨rfl, rfl⟩) : e_Sn 72 19 (o_load e_okI 6 21)) t_72_21
noncomputable def n_72_17 : e_Y := u_ld f_okI f_l5 n_72_19
theorem t_72_17 : e_Sn 72 17 (e_un n_72_17) := u_ldIT f_l5_eq (s_iload (i := .iload 5) (len := 2) hq_72 (by decide +kernel) rfl (.inl ⟨rfl, rfl⟩) : e_Sn 72 17 (o_load e_okI 5 19)) t_72_19
noncomputable def n_72_14 : e_Y := u_if y_ne0 (u_old2 (o_ifeq 17 27) 17 n_72_17 (u_at 27)) n_72_17 (u_at 27)
theorem t_72_14 : e_Sn 72 14 (e_un n_72_14) := u_ifeqT rfl (s_ifne (off := (13)) hq_72 (by decide +kernel) rfl rfl : e_Sn 72 14 (o_ifeq 17 27)) t_72_17 u_atT
noncomputable def n_72_11 : e_Y := u_callS 67 2 21 2 n_67_0 n_72_14
theorem t_72_11 : e_Sn 72 11 (e_un n_72_11) := u_callST rfl (s_callS (index := 144) hq_72 ho_72 hy_67 hp_67 hc_67 hi_67 hd_67 r_m_8_161 hs_67 (by decide +kernel) rfl : e_Sn 72 11 (o_callS 67 2 2 14)) t_67_0 t_72_14
noncomputable def n_72_9 : e_Y := u_ld f_okI f_l4 n_72_11
theorem t_72_9 : e_Sn 72 9 (e_un n_72_9) := u_ldIT f_l4_eq (s_iload (i := .iload 4) (len := 2) hq_72 (by decide +kernel) rfl (.inl ⟨rfl, rfl⟩) : e_Sn 72 9 (o_load e_okI 4 11)) t_72_11
noncomputable def n_72_8 : e_Y := u_ld f_okI f_l3 n_72_9
theorem t_72_8 : e_Sn 72 8 (e_un n_72_8) := u_ldIT f_l3_eq (s_iload (i := .iload_n 3) (len := 1) hq_72 (by decide +kernel) rfl (.inr ⟨3, rfl, rfl, rfl⟩) : e_Sn 72 8 (o_load e_okI 3 9)) t_72_9
noncomputable def n_72_5 : e_Y := u_if y_ne0 (u_old2 (o_ifeq 8 27) 8 n_72_8 (u_at 27)) n_72_8 (u_at 27)
theorem t_72_5 : e_Sn 72 5 (e_un n_72_5) := u_ifeqT rfl (s_ifne (off := (22)) hq_72 (by decide +kernel) rfl rfl : e_Sn 72 5 (o_ifeq 8 27)) t_72_8 u_atT
noncomputable def n_72_2 : e_Y := u_callS 67 2 21 2 n_67_0 n_72_5
theorem t_72_2 : e_Sn 72 2 (e_un n_72_2) := u_callST rfl (s_callS (index := 144) hq_72 ho_72 hy_67 hp_67 hc_67 hi_67 hd_67 r_m_8_161 hs_67 (by decide +kernel) rfl : e_Sn 72 2 (o_callS 67 2 2 5)) t_67_0 t_72_5
noncomputable def n_72_1 : e_Y := u_ld f_okI f_l2 n_72_2
theorem t_72_1 : e_Sn 72 1 (e_un n_72_1) := u_ldIT f_l2_eq (s_iload (i := .iload_n 2) (len := 1) hq_72 (by decide +kernel) rfl (.inr ⟨2, rfl, rfl, rfl⟩) : e_Sn 72 1 (o_load e_okI 2 2)) t_72_2
noncomputable def n_72_0 : e_Y := u_ld f_okI f_l1 n_72_1
theorem t_72_0 : e_Sn 72 0 (e_un n_72_0) := u_ldIT f_l1_eq (s_iload (i := .iload_n 1) (len := 1) hq_72 (by decide +kernel) rfl (.inr ⟨1, rfl, rfl, rfl⟩) : e_Sn 72 0 (o_load e_okI 1 1)) t_72_1
noncomputable def e_tb_72 : e_X := (e_br 98 (e_br 79 (e_lf 0 (e_un n_72_0)) (e_lf 79 (e_un n_72_79))) (e_br 118 (e_lf 98 (e_un n_72_98)) (e_lf 118 (e_un n_72_118))))
theorem e_tk_72 : e_Tb 72 e_tb_72 := (e_brT (e_brT (e_lfT t_72_0) (e_lfT t_72_79)) (e_brT (e_lfT t_72_98) (e_lfT t_72_118)))
theorem hq_73 : (e_ml[73]?).map (·.2.1) = some prog_14_method_26_code := Eq.trans (congrArg (Option.map (fun e => e.2.1)) hy_73) rfl
theorem ho_73 : (e_ml[73]?).map (·.1.cls) = some "PlateroomprinterModel" := Eq.trans (congrArg (Option.map (fun e => e.1.cls)) hy_73) rfl
theorem hr_73 : (e_ml[73]?).map (·.2.2.2) = some (some .int) := Eq.trans (congrArg (Option.map (fun e => e.2.2.2)) hy_73) rfl
noncomputable def n_73_67 : e_Y := u_retI
theorem t_73_67 : e_Sn 73 67 (e_un n_73_67) := u_retIT (s_iret hq_73 hr_73 (by decide +kernel) : e_Sn 73 67 (o_ret e_okI))
noncomputable def n_73_64 : e_Y := u_callV 19 116 1 20 1 n_116_0 n_73_67
theorem t_73_64 : e_Sn 73 64 (e_un n_73_64) := u_callVT rfl (s_callV (ci := 19) (C := er_19) (T := et_19) (N := 3) (index := 74) hq_73 ho_73 hy_116 hp_116 hc_116 hi_116 hd_116 r_m_8_179 hs_116 r_m_8_181 rfl (by decide +kernel) rfl : e_Sn 73 64 (o_callV (e_s1 19 116 1) 1 67)) t_116_0 t_73_67
noncomputable def n_73_61 : e_Y := u_getf 12 2 (u_old (o_getf (e_f1 12 2) 64) n_73_64) n_73_64
theorem t_73_61 : e_Sn 73 61 (e_un n_73_61) := u_getfT (s_getf (C := er_12) (T := et_12) (N := 5) (ref := "PlateroomprinterModel") (index := 19) (ci := 12) (k := 2) hq_73 ho_73 ⟨rfl, by decide, ei_12, r_m_8_143, .inl rfl⟩ (by decide +kernel) rfl : e_Sn 73 61 (o_getf (e_f1 12 2) 64)) t_73_64
noncomputable def n_73_60 : e_Y := u_ld f_okA f_l0 n_73_61
theorem t_73_60 : e_Sn 73 60 (e_un n_73_60) := u_ldAT f_l0_eq (s_aload (i := .aload_n 0) (len := 1) hq_73 (by decide +kernel) rfl (.inr ⟨0, rfl, rfl, rfl⟩) : e_Sn 73 60 (o_load e_okR 0 61)) t_73_61
noncomputable def n_73_59 : e_Y := u_pop n_73_60
theorem t_73_59 : e_Sn 73 59 (e_un n_73_59) := u_popT (s_pop hq_73 (by decide +kernel) rfl : e_Sn 73 59 (o_pop 60)) t_73_60
noncomputable def n_73_56 : e_Y := u_callV 19 106 2 21 2 n_106_0 n_73_59
theorem t_73_56 : e_Sn 73 56 (e_un n_73_56) := u_callVT rfl (s_callV (ci := 19) (C := er_19) (T := et_19) (N := 3) (index := 88) hq_73 ho_73 hy_106 hp_106 hc_106 hi_106 hd_106 r_m_8_183 hs_106 r_m_8_5 rfl (by decide +kernel) rfl : e_Sn 73 56 (o_callV (e_s1 19 106 2) 2 59)) t_106_0 t_73_59
noncomputable def n_73_55 : e_Y := u_ast 0 f_okI (u_old (o_ast 0 e_okI 56) n_73_56) n_73_56
theorem t_73_55 : e_Sn 73 55 (e_un n_73_55) := u_astT (fun _ => f_okI_eq) (s_iast hq_73 (by decide +kernel) rfl : e_Sn 73 55 (o_ast 0 e_okI 56)) t_73_56
noncomputable def n_73_54 : e_Y := u_ld f_okI f_l2 n_73_55
theorem t_73_54 : e_Sn 73 54 (e_un n_73_54) := u_ldIT f_l2_eq (s_iload (i := .iload_n 2) (len := 1) hq_73 (by decide +kernel) rfl (.inr ⟨2, rfl, rfl, rfl⟩) : e_Sn 73 54 (o_load e_okI 2 55)) t_73_55
noncomputable def n_73_53 : e_Y := u_push (.inl 2147483649) n_73_54
theorem t_73_53 : e_Sn 73 53 (e_un n_73_53) := u_pushT (s_iconst (n := (1)) hq_73 (by decide +kernel) rfl ⟨by decide +kernel, by decide +kernel⟩ : e_Sn 73 53 (o_push (.inl 2147483649) 54)) t_73_54
noncomputable def n_73_52 : e_Y := u_old (o_dup 53) n_73_53
theorem t_73_52 : e_Sn 73 52 (e_un n_73_52) := u_oldT (s_dup hq_73 (by decide +kernel) rfl : e_Sn 73 52 (o_dup 53)) t_73_53 e_cg_dup
noncomputable def n_73_51 : e_Y := u_ast 0 f_okI (u_old (o_ast 0 e_okI 52) n_73_52) n_73_52
theorem t_73_51 : e_Sn 73 51 (e_un n_73_51) := u_astT (fun _ => f_okI_eq) (s_iast hq_73 (by decide +kernel) rfl : e_Sn 73 51 (o_ast 0 e_okI 52)) t_73_52
noncomputable def n_73_50 : e_Y := u_ld f_okI f_l1 n_73_51
theorem t_73_50 : e_Sn 73 50 (e_un n_73_50) := u_ldIT f_l1_eq (s_iload (i := .iload_n 1) (len := 1) hq_73 (by decide +kernel) rfl (.inr ⟨1, rfl, rfl, rfl⟩) : e_Sn 73 50 (o_load e_okI 1 51)) t_73_51
noncomputable def n_73_49 : e_Y := u_push (.inl 2147483648) n_73_50
theorem t_73_49 : e_Sn 73 49 (e_un n_73_49) := u_pushT (s_iconst (n := (0)) hq_73 (by decide +kernel) rfl ⟨by decide +kernel, by decide +kernel⟩ : e_Sn 73 49 (o_push (.inl 2147483648) 50)) t_73_50
noncomputable def n_73_48 : e_Y := u_old (o_dup 49) n_73_49
theorem t_73_48 : e_Sn 73 48 (e_un n_73_48) := u_oldT (s_dup hq_73 (by decide +kernel) rfl : e_Sn 73 48 (o_dup 49)) t_73_49 e_cg_dup
noncomputable def n_73_46 : e_Y := u_tab (o_newa 0 (e_I 2147483648) 48)
theorem t_73_46 : e_Sn 73 46 (e_un n_73_46) := u_tabT (s_newI r_m_1_78 hq_73 (by decide +kernel) rfl : e_Sn 73 46 (o_newa 0 (e_I 2147483648) 48))
noncomputable def n_73_45 : e_Y := u_push (.inl 2147483650) n_73_46
theorem t_73_45 : e_Sn 73 45 (e_un n_73_45) := u_pushT (s_iconst (n := (2)) hq_73 (by decide +kernel) rfl ⟨by decide +kernel, by decide +kernel⟩ : e_Sn 73 45 (o_push (.inl 2147483650) 46)) t_73_46
noncomputable def n_73_42 : e_Y := u_getf 12 2 (u_old (o_getf (e_f1 12 2) 45) n_73_45) n_73_45
theorem t_73_42 : e_Sn 73 42 (e_un n_73_42) := u_getfT (s_getf (C := er_12) (T := et_12) (N := 5) (ref := "PlateroomprinterModel") (index := 19) (ci := 12) (k := 2) hq_73 ho_73 ⟨rfl, by decide, ei_12, r_m_8_143, .inl rfl⟩ (by decide +kernel) rfl : e_Sn 73 42 (o_getf (e_f1 12 2) 45)) t_73_45
noncomputable def n_73_41 : e_Y := u_ld f_okA f_l0 n_73_42
theorem t_73_41 : e_Sn 73 41 (e_un n_73_41) := u_ldAT f_l0_eq (s_aload (i := .aload_n 0) (len := 1) hq_73 (by decide +kernel) rfl (.inr ⟨0, rfl, rfl, rfl⟩) : e_Sn 73 41 (o_load e_okR 0 42)) t_73_42
noncomputable def n_73_36 : e_Y := u_if y_ne0 (u_old2 (o_ifeq 41 39) 41 n_73_41 (u_at 39)) n_73_41 (u_at 39)
theorem t_73_36 : e_Sn 73 36 (e_un n_73_36) := u_ifeqT rfl (s_ifeq (off := (5)) hq_73 (by decide +kernel) rfl rfl : e_Sn 73 36 (o_ifeq 41 39)) t_73_41 u_atT
noncomputable def n_73_33 : e_Y := u_callV 12 69 3 22 3 n_69_0 n_73_36
theorem t_73_33 : e_Sn 73 33 (e_un n_73_33) := u_callVT rfl (s_callV (ci := 12) (C := er_12) (T := et_12) (N := 5) (index := 128) hq_73 ho_73 hy_69 hp_69 hc_69 hi_69 hd_69 r_m_8_175 hs_69 (List.mem_of_getElem? (i := 14) (by decide +kernel)) rfl (by decide +kernel) rfl : e_Sn 73 33 (o_callV (e_s1 12 69 3) 3 36)) t_69_0 t_73_36
noncomputable def n_73_32 : e_Y := u_push (.inl 2147483650) n_73_33
theorem t_73_32 : e_Sn 73 32 (e_un n_73_32) := u_pushT (s_iconst (n := (2)) hq_73 (by decide +kernel) rfl ⟨by decide +kernel, by decide +kernel⟩ : e_Sn 73 32 (o_push (.inl 2147483650) 33)) t_73_33
noncomputable def n_73_31 : e_Y := u_push (.inl 2147483648) n_73_32
theorem t_73_31 : e_Sn 73 31 (e_un n_73_31) := u_pushT (s_iconst (n := (0)) hq_73 (by decide +kernel) rfl ⟨by decide +kernel, by decide +kernel⟩ : e_Sn 73 31 (o_push (.inl 2147483648) 32)) t_73_32
noncomputable def n_73_24 : e_Y := u_jmp y_ne (u_old2 (o_ceq 27 31) 27 (u_at 27) n_73_31) (u_at 27) n_73_31
theorem t_73_24 : e_Sn 73 24 (e_un n_73_24) := u_ceqT rfl (s_cne (off := (7)) hq_73 (by decide +kernel) rfl rfl : e_Sn 73 24 (o_ceq 27 31)) u_atT t_73_31
noncomputable def n_73_21 : e_Y := u_push (.inl 2147484048) n_73_24
theorem t_73_21 : e_Sn 73 21 (e_un n_73_21) := u_pushT (s_sipush (n := (400)) hq_73 (by decide +kernel) rfl ⟨by decide +kernel, by decide +kernel⟩ : e_Sn 73 21 (o_push (.inl 2147484048) 24)) t_73_24
noncomputable def n_73_18 : e_Y := u_callV 19 116 1 20 1 n_116_0 n_73_21
theorem t_73_18 : e_Sn 73 18 (e_un n_73_18) := u_callVT rfl (s_callV (ci := 19) (C := er_19) (T := et_19) (N := 3) (index := 74) hq_73 ho_73 hy_116 hp_116 hc_116 hi_116 hd_116 r_m_8_179 hs_116 r_m_8_181 rfl (by decide +kernel) rfl : e_Sn 73 18 (o_callV (e_s1 19 116 1) 1 21)) t_116_0 t_73_21
noncomputable def n_73_15 : e_Y := u_getf 12 2 (u_old (o_getf (e_f1 12 2) 18) n_73_18) n_73_18
theorem t_73_15 : e_Sn 73 15 (e_un n_73_15) := u_getfT (s_getf (C := er_12) (T := et_12) (N := 5) (ref := "PlateroomprinterModel") (index := 19) (ci := 12) (k := 2) hq_73 ho_73 ⟨rfl, by decide, ei_12, r_m_8_143, .inl rfl⟩ (by decide +kernel) rfl : e_Sn 73 15 (o_getf (e_f1 12 2) 18)) t_73_18
noncomputable def n_73_14 : e_Y := u_ld f_okA f_l0 n_73_15
theorem t_73_14 : e_Sn 73 14 (e_un n_73_14) := u_ldAT f_l0_eq (s_aload (i := .aload_n 0) (len := 1) hq_73 (by decide +kernel) rfl (.inr ⟨0, rfl, rfl, rfl⟩) : e_Sn 73 14 (o_load e_okR 0 15)) t_73_15
noncomputable def n_73_13 : e_Y := u_ld f_okA f_l0 n_73_14
theorem t_73_13 : e_Sn 73 13 (e_un n_73_13) := u_ldAT f_l0_eq (s_aload (i := .aload_n 0) (len := 1) hq_73 (by decide +kernel) rfl (.inr ⟨0, rfl, rfl, rfl⟩) : e_Sn 73 13 (o_load e_okR 0 14)) t_73_14
noncomputable def n_73_10 : e_Y := u_if y_ne0 (u_old2 (o_ifeq 13 39) 13 n_73_13 (u_at 39)) n_73_13 (u_at 39)
theorem t_73_10 : e_Sn 73 10 (e_un n_73_10) := u_ifeqT rfl (s_ifne (off := (29)) hq_73 (by decide +kernel) rfl rfl : e_Sn 73 10 (o_ifeq 13 39)) t_73_13 u_atT
noncomputable def n_73_7 : e_Y := u_callV 12 71 3 22 3 n_71_0 n_73_10
theorem t_73_7 : e_Sn 73 7 (e_un n_73_7) := u_callVT rfl (s_callV (ci := 12) (C := er_12) (T := et_12) (N := 5) (index := 148) hq_73 ho_73 hy_71 hp_71 hc_71 hi_71 hd_71 r_m_8_171 hs_71 (List.mem_of_getElem? (i := 13) (by decide +kernel)) rfl (by decide +kernel) rfl : e_Sn 73 7 (o_callV (e_s1 12 71 3) 3 10)) t_71_0 t_73_10
noncomputable def n_73_6 : e_Y := u_push (.inl 2147483649) n_73_7
theorem t_73_6 : e_Sn 73 6 (e_un n_73_6) := u_pushT (s_iconst (n := (1)) hq_73 (by decide +kernel) rfl ⟨by decide +kernel, by decide +kernel⟩ : e_Sn 73 6 (o_push (.inl 2147483649) 7)) t_73_7
noncomputable def n_73_3 : e_Y := u_callS 67 2 21 2 n_67_0 n_73_6
theorem t_73_3 : e_Sn 73 3 (e_un n_73_3) := u_callST rfl (s_callS (index := 144) hq_73 ho_73 hy_67 hp_67 hc_67 hi_67 hd_67 r_m_8_161 hs_67 (by decide +kernel) rfl : e_Sn 73 3 (o_callS 67 2 2 6)) t_67_0 t_73_6
noncomputable def n_73_2 : e_Y := u_ld f_okI f_l2 n_73_3
theorem t_73_2 : e_Sn 73 2 (e_un n_73_2) := u_ldIT f_l2_eq (s_iload (i := .iload_n 2) (len := 1) hq_73 (by decide +kernel) rfl (.inr ⟨2, rfl, rfl, rfl⟩) : e_Sn 73 2 (o_load e_okI 2 3)) t_73_3
noncomputable def n_73_1 : e_Y := u_ld f_okI f_l1 n_73_2
theorem t_73_1 : e_Sn 73 1 (e_un n_73_1) := u_ldIT f_l1_eq (s_iload (i := .iload_n 1) (len := 1) hq_73 (by decide +kernel) rfl (.inr ⟨1, rfl, rfl, rfl⟩) : e_Sn 73 1 (o_load e_okI 1 2)) t_73_2
noncomputable def n_73_0 : e_Y := u_ld f_okA f_l0 n_73_1
theorem t_73_0 : e_Sn 73 0 (e_un n_73_0) := u_ldAT f_l0_eq (s_aload (i := .aload_n 0) (len := 1) hq_73 (by decide +kernel) rfl (.inr ⟨0, rfl, rfl, rfl⟩) : e_Sn 73 0 (o_load e_okR 0 1)) t_73_1
noncomputable def e_tb_73 : e_X := (e_br 48 (e_lf 0 (e_un n_73_0)) (e_lf 48 (e_un n_73_48)))
theorem e_tk_73 : e_Tb 73 e_tb_73 := (e_brT (e_lfT t_73_0) (e_lfT t_73_48))
theorem hq_119 : (e_ml[119]?).map (·.2.1) = some code := rfl
theorem ho_119 : (e_ml[119]?).map (·.1.cls) = some "PlateroomprinterLaw" := rfl
theorem hr_119 : (e_ml[119]?).map (·.2.2.2) = some (some .boolean) := rfl
noncomputable def n_119_1444 : e_Y := u_tab (o_ret e_okZ)
theorem t_119_1444 : e_Sn 119 1444 (e_un n_119_1444) := u_tabT (s_zret hq_119 hr_119 (by decide +kernel) : e_Sn 119 1444 (o_ret e_okZ))
noncomputable def n_119_1443 : e_Y := u_push (.inl 2147483649) n_119_1444
theorem t_119_1443 : e_Sn 119 1443 (e_un n_119_1443) := u_pushT (s_iconst (n := (1)) hq_119 (by decide +kernel) rfl ⟨by decide +kernel, by decide +kernel⟩ : e_Sn 119 1443 (o_push (.inl 2147483649) 1444)) t_119_1444
noncomputable def n_119_1440 : e_Y := (u_at 23)
theorem t_119_1440 : e_Sn 119 1440 (e_un n_119_1440) := u_gotoT (s_goto (off := (-1417)) hq_119 (by decide +kernel) rfl : e_Sn 119 1440 (o_goto 23)) u_atT
noncomputable def n_119_1437 : e_Y := u_inc f_l4 f_s4 7 n_119_1440
theorem t_119_1437 : e_Sn 119 1437 (e_un n_119_1437) := u_incT f_l4_eq (fun _ _ _ => f_s4_eq) (s_iinc (zz := (7)) hq_119 (by decide +kernel) rfl (by decide +kernel) ⟨by decide, by decide⟩ : e_Sn 119 1437 (o_iinc 4 7 1440)) t_119_1440
noncomputable def n_119_377 : e_Y := n_119_1437
theorem t_119_377 : e_Sn 119 377 (e_un n_119_377) := u_gotoT (s_goto (off := (1060)) hq_119 (by decide +kernel) rfl : e_Sn 119 377 (o_goto 1437)) t_119_1437
noncomputable def n_119_376 : e_Y := u_pop n_119_377
theorem t_119_376 : e_Sn 119 376 (e_un n_119_376) := u_popT (s_pop hq_119 (by decide +kernel) rfl : e_Sn 119 376 (o_pop 377)) t_119_377
noncomputable def n_119_373 : e_Y := u_callV 12 70 4 23 1 n_70_0 n_119_376
theorem t_119_373 : e_Sn 119 373 (e_un n_119_373) := u_callVT rfl (s_callVW (ci := 12) (C := er_12) (T := et_12) (N := 5) (index := 132) hq_119 ho_119 hy_70 hp_70 hc_70 hi_70 hd_70 (r_k8 (List.mem_of_getElem? (i := 216) (by decide +kernel))) hs_70 (r_k8 (List.mem_of_getElem? (i := 218) (by decide +kernel))) rfl (by decide +kernel) rfl : e_Sn 119 373 (o_callV (e_s1 12 70 4) 1 376)) t_70_0 t_119_376
noncomputable def n_119_372 : e_Y := u_ld f_okA f_l2 n_119_373
theorem t_119_372 : e_Sn 119 372 (e_un n_119_372) := u_ldAT f_l2_eq (s_aload (i := .aload_n 2) (len := 1) hq_119 (by decide +kernel) rfl (.inr ⟨2, rfl, rfl, rfl⟩) : e_Sn 119 372 (o_load e_okR 2 373)) t_119_373
noncomputable def n_119_371 : e_Y := u_pop n_119_372
theorem t_119_371 : e_Sn 119 371 (e_un n_119_371) := u_popT (s_pop hq_119 (by decide +kernel) rfl : e_Sn 119 371 (o_pop 372)) t_119_372
noncomputable def n_119_368 : e_Y := u_callV 0 3 3 22 1 n_3_0 n_119_371
theorem t_119_368 : e_Sn 119 368 (e_un n_119_368) := u_callVT rfl (s_callV (ci := 0) (C := er_0) (T := et_0) (N := 17) (index := 129) hq_119 ho_119 hy_3 hp_3 hc_3 hi_3 hd_3 (r_k3 (List.mem_of_getElem? (i := 119) (by decide +kernel))) hs_3 (r_k3 (List.mem_of_getElem? (i := 121) (by decide +kernel))) rfl (by decide +kernel) rfl : e_Sn 119 368 (o_callV (e_s1 0 3 3) 1 371)) t_3_0 t_119_371
noncomputable def n_119_367 : e_Y := u_ld f_okA f_l1 n_119_368
theorem t_119_367 : e_Sn 119 367 (e_un n_119_367) := u_ldAT f_l1_eq (s_aload (i := .aload_n 1) (len := 1) hq_119 (by decide +kernel) rfl (.inr ⟨1, rfl, rfl, rfl⟩) : e_Sn 119 367 (o_load e_okR 1 368)) t_119_368
noncomputable def n_119_335 : e_Y := n_119_1437
theorem t_119_335 : e_Sn 119 335 (e_un n_119_335) := u_gotoT (s_goto (off := (1102)) hq_119 (by decide +kernel) rfl : e_Sn 119 335 (o_goto 1437)) t_119_1437
noncomputable def n_119_333 : e_Y := u_st f_okI f_s6 n_119_335
theorem t_119_333 : e_Sn 119 333 (e_un n_119_333) := u_stIT (fun _ _ _ => f_s6_eq) (s_istore (i := .istore 6) (len := 2) hq_119 (by decide +kernel) rfl (.inl ⟨rfl, rfl⟩) : e_Sn 119 333 (o_store e_okI 6 335)) t_119_335
noncomputable def n_119_330 : e_Y := u_callV 12 72 8 27 7 n_72_0 n_119_333
theorem t_119_330 : e_Sn 119 330 (e_un n_119_330) := u_callVT rfl (s_callV (ci := 12) (C := er_12) (T := et_12) (N := 5) (index := 120) hq_119 ho_119 hy_72 hp_72 hc_72 hi_72 hd_72 (r_k8 (List.mem_of_getElem? (i := 184) (by decide +kernel))) hs_72 (r_k8 (List.mem_of_getElem? (i := 186) (by decide +kernel))) rfl (by decide +kernel) rfl : e_Sn 119 330 (o_callV (e_s1 12 72 8) 7 333)) t_72_0 t_119_333
noncomputable def n_119_329 : e_Y := u_ald 0 (u_old (o_ald e_fcs 330) n_119_330) n_119_330
theorem t_119_329 : e_Sn 119 329 (e_un n_119_329) := u_aldT (s_iald hq_119 (by decide +kernel) rfl : e_Sn 119 329 (o_ald e_fcs 330)) t_119_330
noncomputable def n_119_328 : e_Y := u_bin a_iadd (u_old (o_iadd 329) n_119_329) n_119_329
theorem t_119_328 : e_Sn 119 328 (e_un n_119_328) := u_iaddT (s_iadd hq_119 (by decide +kernel) rfl : e_Sn 119 328 (o_iadd 329)) t_119_329
noncomputable def n_119_326 : e_Y := u_push (.inl 2147483654) n_119_328
theorem t_119_326 : e_Sn 119 326 (e_un n_119_326) := u_pushT (s_bipush (n := (6)) hq_119 (by decide +kernel) rfl ⟨by decide +kernel, by decide +kernel⟩ : e_Sn 119 326 (o_push (.inl 2147483654) 328)) t_119_328
noncomputable def n_119_324 : e_Y := u_ld f_okI f_l4 n_119_326
theorem t_119_324 : e_Sn 119 324 (e_un n_119_324) := u_ldIT f_l4_eq (s_iload (i := .iload 4) (len := 2) hq_119 (by decide +kernel) rfl (.inl ⟨rfl, rfl⟩) : e_Sn 119 324 (o_load e_okI 4 326)) t_119_326
noncomputable def n_119_323 : e_Y := u_ld f_okA f_l0 n_119_324
theorem t_119_323 : e_Sn 119 323 (e_un n_119_323) := u_ldAT f_l0_eq (s_aload (i := .aload_n 0) (len := 1) hq_119 (by decide +kernel) rfl (.inr ⟨0, rfl, rfl, rfl⟩) : e_Sn 119 323 (o_load e_okR 0 324)) t_119_324
noncomputable def n_119_322 : e_Y := u_ald 0 (u_old (o_ald e_fcs 323) n_119_323) n_119_323
theorem t_119_322 : e_Sn 119 322 (e_un n_119_322) := u_aldT (s_iald hq_119 (by decide +kernel) rfl : e_Sn 119 322 (o_ald e_fcs 323)) t_119_323
noncomputable def n_119_321 : e_Y := u_bin a_iadd (u_old (o_iadd 322) n_119_322) n_119_322
theorem t_119_321 : e_Sn 119 321 (e_un n_119_321) := u_iaddT (s_iadd hq_119 (by decide +kernel) rfl : e_Sn 119 321 (o_iadd 322)) t_119_322
noncomputable def n_119_320 : e_Y := u_push (.inl 2147483653) n_119_321
theorem t_119_320 : e_Sn 119 320 (e_un n_119_320) := u_pushT (s_iconst (n := (5)) hq_119 (by decide +kernel) rfl ⟨by decide +kernel, by decide +kernel⟩ : e_Sn 119 320 (o_push (.inl 2147483653) 321)) t_119_321
noncomputable def n_119_318 : e_Y := u_ld f_okI f_l4 n_119_320
theorem t_119_318 : e_Sn 119 318 (e_un n_119_318) := u_ldIT f_l4_eq (s_iload (i := .iload 4) (len := 2) hq_119 (by decide +kernel) rfl (.inl ⟨rfl, rfl⟩) : e_Sn 119 318 (o_load e_okI 4 320)) t_119_320
noncomputable def n_119_317 : e_Y := u_ld f_okA f_l0 n_119_318
theorem t_119_317 : e_Sn 119 317 (e_un n_119_317) := u_ldAT f_l0_eq (s_aload (i := .aload_n 0) (len := 1) hq_119 (by decide +kernel) rfl (.inr ⟨0, rfl, rfl, rfl⟩) : e_Sn 119 317 (o_load e_okR 0 318)) t_119_318
noncomputable def n_119_316 : e_Y := u_ald 0 (u_old (o_ald e_fcs 317) n_119_317) n_119_317
theorem t_119_316 : e_Sn 119 316 (e_un n_119_316) := u_aldT (s_iald hq_119 (by decide +kernel) rfl : e_Sn 119 316 (o_ald e_fcs 317)) t_119_317
noncomputable def n_119_315 : e_Y := u_bin a_iadd (u_old (o_iadd 316) n_119_316) n_119_316
theorem t_119_315 : e_Sn 119 315 (e_un n_119_315) := u_iaddT (s_iadd hq_119 (by decide +kernel) rfl : e_Sn 119 315 (o_iadd 316)) t_119_316
noncomputable def n_119_314 : e_Y := u_push (.inl 2147483652) n_119_315
theorem t_119_314 : e_Sn 119 314 (e_un n_119_314) := u_pushT (s_iconst (n := (4)) hq_119 (by decide +kernel) rfl ⟨by decide +kernel, by decide +kernel⟩ : e_Sn 119 314 (o_push (.inl 2147483652) 315)) t_119_315
noncomputable def n_119_312 : e_Y := u_ld f_okI f_l4 n_119_314
theorem t_119_312 : e_Sn 119 312 (e_un n_119_312) := u_ldIT f_l4_eq (s_iload (i := .iload 4) (len := 2) hq_119 (by decide +kernel) rfl (.inl ⟨rfl, rfl⟩) : e_Sn 119 312 (o_load e_okI 4 314)) t_119_314
noncomputable def n_119_311 : e_Y := u_ld f_okA f_l0 n_119_312
theorem t_119_311 : e_Sn 119 311 (e_un n_119_311) := u_ldAT f_l0_eq (s_aload (i := .aload_n 0) (len := 1) hq_119 (by decide +kernel) rfl (.inr ⟨0, rfl, rfl, rfl⟩) : e_Sn 119 311 (o_load e_okR 0 312)) t_119_312
noncomputable def n_119_310 : e_Y := u_ald 0 (u_old (o_ald e_fcs 311) n_119_311) n_119_311
theorem t_119_310 : e_Sn 119 310 (e_un n_119_310) := u_aldT (s_iald hq_119 (by decide +kernel) rfl : e_Sn 119 310 (o_ald e_fcs 311)) t_119_311
noncomputable def n_119_309 : e_Y := u_bin a_iadd (u_old (o_iadd 310) n_119_310) n_119_310
theorem t_119_309 : e_Sn 119 309 (e_un n_119_309) := u_iaddT (s_iadd hq_119 (by decide +kernel) rfl : e_Sn 119 309 (o_iadd 310)) t_119_310
noncomputable def n_119_308 : e_Y := u_push (.inl 2147483651) n_119_309
theorem t_119_308 : e_Sn 119 308 (e_un n_119_308) := u_pushT (s_iconst (n := (3)) hq_119 (by decide +kernel) rfl ⟨by decide +kernel, by decide +kernel⟩ : e_Sn 119 308 (o_push (.inl 2147483651) 309)) t_119_309
noncomputable def n_119_306 : e_Y := u_ld f_okI f_l4 n_119_308
theorem t_119_306 : e_Sn 119 306 (e_un n_119_306) := u_ldIT f_l4_eq (s_iload (i := .iload 4) (len := 2) hq_119 (by decide +kernel) rfl (.inl ⟨rfl, rfl⟩) : e_Sn 119 306 (o_load e_okI 4 308)) t_119_308
noncomputable def n_119_305 : e_Y := u_ld f_okA f_l0 n_119_306
theorem t_119_305 : e_Sn 119 305 (e_un n_119_305) := u_ldAT f_l0_eq (s_aload (i := .aload_n 0) (len := 1) hq_119 (by decide +kernel) rfl (.inr ⟨0, rfl, rfl, rfl⟩) : e_Sn 119 305 (o_load e_okR 0 306)) t_119_306
noncomputable def n_119_304 : e_Y := u_ald 0 (u_old (o_ald e_fcs 305) n_119_305) n_119_305
theorem t_119_304 : e_Sn 119 304 (e_un n_119_304) := u_aldT (s_iald hq_119 (by decide +kernel) rfl : e_Sn 119 304 (o_ald e_fcs 305)) t_119_305
noncomputable def n_119_303 : e_Y := u_bin a_iadd (u_old (o_iadd 304) n_119_304) n_119_304
theorem t_119_303 : e_Sn 119 303 (e_un n_119_303) := u_iaddT (s_iadd hq_119 (by decide +kernel) rfl : e_Sn 119 303 (o_iadd 304)) t_119_304
noncomputable def n_119_302 : e_Y := u_push (.inl 2147483650) n_119_303
theorem t_119_302 : e_Sn 119 302 (e_un n_119_302) := u_pushT (s_iconst (n := (2)) hq_119 (by decide +kernel) rfl ⟨by decide +kernel, by decide +kernel⟩ : e_Sn 119 302 (o_push (.inl 2147483650) 303)) t_119_303
noncomputable def n_119_300 : e_Y := u_ld f_okI f_l4 n_119_302
theorem t_119_300 : e_Sn 119 300 (e_un n_119_300) := u_ldIT f_l4_eq (s_iload (i := .iload 4) (len := 2) hq_119 (by decide +kernel) rfl (.inl ⟨rfl, rfl⟩) : e_Sn 119 300 (o_load e_okI 4 302)) t_119_302
noncomputable def n_119_299 : e_Y := u_ld f_okA f_l0 n_119_300
theorem t_119_299 : e_Sn 119 299 (e_un n_119_299) := u_ldAT f_l0_eq (s_aload (i := .aload_n 0) (len := 1) hq_119 (by decide +kernel) rfl (.inr ⟨0, rfl, rfl, rfl⟩) : e_Sn 119 299 (o_load e_okR 0 300)) t_119_300
noncomputable def n_119_298 : e_Y := u_ald 0 (u_old (o_ald e_fcs 299) n_119_299) n_119_299
theorem t_119_298 : e_Sn 119 298 (e_un n_119_298) := u_aldT (s_iald hq_119 (by decide +kernel) rfl : e_Sn 119 298 (o_ald e_fcs 299)) t_119_299
noncomputable def n_119_297 : e_Y := u_bin a_iadd (u_old (o_iadd 298) n_119_298) n_119_298
theorem t_119_297 : e_Sn 119 297 (e_un n_119_297) := u_iaddT (s_iadd hq_119 (by decide +kernel) rfl : e_Sn 119 297 (o_iadd 298)) t_119_298
noncomputable def n_119_296 : e_Y := u_push (.inl 2147483649) n_119_297
theorem t_119_296 : e_Sn 119 296 (e_un n_119_296) := u_pushT (s_iconst (n := (1)) hq_119 (by decide +kernel) rfl ⟨by decide +kernel, by decide +kernel⟩ : e_Sn 119 296 (o_push (.inl 2147483649) 297)) t_119_297
noncomputable def n_119_294 : e_Y := u_ld f_okI f_l4 n_119_296
theorem t_119_294 : e_Sn 119 294 (e_un n_119_294) := u_ldIT f_l4_eq (s_iload (i := .iload 4) (len := 2) hq_119 (by decide +kernel) rfl (.inl ⟨rfl, rfl⟩) : e_Sn 119 294 (o_load e_okI 4 296)) t_119_296
noncomputable def n_119_293 : e_Y := u_ld f_okA f_l0 n_119_294
theorem t_119_293 : e_Sn 119 293 (e_un n_119_293) := u_ldAT f_l0_eq (s_aload (i := .aload_n 0) (len := 1) hq_119 (by decide +kernel) rfl (.inr ⟨0, rfl, rfl, rfl⟩) : e_Sn 119 293 (o_load e_okR 0 294)) t_119_294
noncomputable def n_119_292 : e_Y := u_ld f_okA f_l2 n_119_293
theorem t_119_292 : e_Sn 119 292 (e_un n_119_292) := u_ldAT f_l2_eq (s_aload (i := .aload_n 2) (len := 1) hq_119 (by decide +kernel) rfl (.inr ⟨2, rfl, rfl, rfl⟩) : e_Sn 119 292 (o_load e_okR 2 293)) t_119_293
noncomputable def n_119_290 : e_Y := u_st f_okI f_s5 n_119_292
theorem t_119_290 : e_Sn 119 290 (e_un n_119_290) := u_stIT (fun _ _ _ => f_s5_eq) (s_istore (i := .istore 5) (len := 2) hq_119 (by decide +kernel) rfl (.inl ⟨rfl, rfl⟩) : e_Sn 119 290 (o_store e_okI 5 292)) t_119_292
noncomputable def n_119_287 : e_Y := u_callS 59 9 28 8 n_59_0 n_119_290
theorem t_119_287 : e_Sn 119 287 (e_un n_119_287) := u_callST rfl (s_callSW (index := 117) hq_119 ho_119 hy_59 hp_59 hc_59 hi_59 hd_59 (r_k7 (List.mem_of_getElem? (i := 17) (by decide +kernel))) hs_59 (by decide +kernel) rfl : e_Sn 119 287 (o_callS 59 9 8 290)) t_59_0 t_119_290
noncomputable def n_119_286 : e_Y := u_ld f_okA f_l3 n_119_287
theorem t_119_286 : e_Sn 119 286 (e_un n_119_286) := u_ldAT f_l3_eq (s_aload (i := .aload_n 3) (len := 1) hq_119 (by decide +kernel) rfl (.inr ⟨3, rfl, rfl, rfl⟩) : e_Sn 119 286 (o_load e_okR 3 287)) t_119_287
noncomputable def n_119_285 : e_Y := u_ald 0 (u_old (o_ald e_fcs 286) n_119_286) n_119_286
theorem t_119_285 : e_Sn 119 285 (e_un n_119_285) := u_aldT (s_iald hq_119 (by decide +kernel) rfl : e_Sn 119 285 (o_ald e_fcs 286)) t_119_286
noncomputable def n_119_284 : e_Y := u_bin a_iadd (u_old (o_iadd 285) n_119_285) n_119_285
theorem t_119_284 : e_Sn 119 284 (e_un n_119_284) := u_iaddT (s_iadd hq_119 (by decide +kernel) rfl : e_Sn 119 284 (o_iadd 285)) t_119_285
noncomputable def n_119_282 : e_Y := u_push (.inl 2147483654) n_119_284
theorem t_119_282 : e_Sn 119 282 (e_un n_119_282) := u_pushT (s_bipush (n := (6)) hq_119 (by decide +kernel) rfl ⟨by decide +kernel, by decide +kernel⟩ : e_Sn 119 282 (o_push (.inl 2147483654) 284)) t_119_284
noncomputable def n_119_280 : e_Y := u_ld f_okI f_l4 n_119_282
theorem t_119_280 : e_Sn 119 280 (e_un n_119_280) := u_ldIT f_l4_eq (s_iload (i := .iload 4) (len := 2) hq_119 (by decide +kernel) rfl (.inl ⟨rfl, rfl⟩) : e_Sn 119 280 (o_load e_okI 4 282)) t_119_282
noncomputable def n_119_279 : e_Y := u_ld f_okA f_l0 n_119_280
theorem t_119_279 : e_Sn 119 279 (e_un n_119_279) := u_ldAT f_l0_eq (s_aload (i := .aload_n 0) (len := 1) hq_119 (by decide +kernel) rfl (.inr ⟨0, rfl, rfl, rfl⟩) : e_Sn 119 279 (o_load e_okR 0 280)) t_119_280
noncomputable def n_119_278 : e_Y := u_ald 0 (u_old (o_ald e_fcs 279) n_119_279) n_119_279
theorem t_119_278 : e_Sn 119 278 (e_un n_119_278) := u_aldT (s_iald hq_119 (by decide +kernel) rfl : e_Sn 119 278 (o_ald e_fcs 279)) t_119_279
noncomputable def n_119_277 : e_Y := u_bin a_iadd (u_old (o_iadd 278) n_119_278) n_119_278
theorem t_119_277 : e_Sn 119 277 (e_un n_119_277) := u_iaddT (s_iadd hq_119 (by decide +kernel) rfl : e_Sn 119 277 (o_iadd 278)) t_119_278
noncomputable def n_119_276 : e_Y := u_push (.inl 2147483653) n_119_277
theorem t_119_276 : e_Sn 119 276 (e_un n_119_276) := u_pushT (s_iconst (n := (5)) hq_119 (by decide +kernel) rfl ⟨by decide +kernel, by decide +kernel⟩ : e_Sn 119 276 (o_push (.inl 2147483653) 277)) t_119_277
noncomputable def n_119_274 : e_Y := u_ld f_okI f_l4 n_119_276
theorem t_119_274 : e_Sn 119 274 (e_un n_119_274) := u_ldIT f_l4_eq (s_iload (i := .iload 4) (len := 2) hq_119 (by decide +kernel) rfl (.inl ⟨rfl, rfl⟩) : e_Sn 119 274 (o_load e_okI 4 276)) t_119_276
noncomputable def n_119_273 : e_Y := u_ld f_okA f_l0 n_119_274
theorem t_119_273 : e_Sn 119 273 (e_un n_119_273) := u_ldAT f_l0_eq (s_aload (i := .aload_n 0) (len := 1) hq_119 (by decide +kernel) rfl (.inr ⟨0, rfl, rfl, rfl⟩) : e_Sn 119 273 (o_load e_okR 0 274)) t_119_274
noncomputable def n_119_272 : e_Y := u_ald 0 (u_old (o_ald e_fcs 273) n_119_273) n_119_273
theorem t_119_272 : e_Sn 119 272 (e_un n_119_272) := u_aldT (s_iald hq_119 (by decide +kernel) rfl : e_Sn 119 272 (o_ald e_fcs 273)) t_119_273
noncomputable def n_119_271 : e_Y := u_bin a_iadd (u_old (o_iadd 272) n_119_272) n_119_272
theorem t_119_271 : e_Sn 119 271 (e_un n_119_271) := u_iaddT (s_iadd hq_119 (by decide +kernel) rfl : e_Sn 119 271 (o_iadd 272)) t_119_272
noncomputable def n_119_270 : e_Y := u_push (.inl 2147483652) n_119_271
theorem t_119_270 : e_Sn 119 270 (e_un n_119_270) := u_pushT (s_iconst (n := (4)) hq_119 (by decide +kernel) rfl ⟨by decide +kernel, by decide +kernel⟩ : e_Sn 119 270 (o_push (.inl 2147483652) 271)) t_119_271
noncomputable def n_119_268 : e_Y := u_ld f_okI f_l4 n_119_270
theorem t_119_268 : e_Sn 119 268 (e_un n_119_268) := u_ldIT f_l4_eq (s_iload (i := .iload 4) (len := 2) hq_119 (by decide +kernel) rfl (.inl ⟨rfl, rfl⟩) : e_Sn 119 268 (o_load e_okI 4 270)) t_119_270
noncomputable def n_119_267 : e_Y := u_ld f_okA f_l0 n_119_268
theorem t_119_267 : e_Sn 119 267 (e_un n_119_267) := u_ldAT f_l0_eq (s_aload (i := .aload_n 0) (len := 1) hq_119 (by decide +kernel) rfl (.inr ⟨0, rfl, rfl, rfl⟩) : e_Sn 119 267 (o_load e_okR 0 268)) t_119_268
noncomputable def n_119_266 : e_Y := u_ald 0 (u_old (o_ald e_fcs 267) n_119_267) n_119_267
theorem t_119_266 : e_Sn 119 266 (e_un n_119_266) := u_aldT (s_iald hq_119 (by decide +kernel) rfl : e_Sn 119 266 (o_ald e_fcs 267)) t_119_267
noncomputable def n_119_265 : e_Y := u_bin a_iadd (u_old (o_iadd 266) n_119_266) n_119_266
theorem t_119_265 : e_Sn 119 265 (e_un n_119_265) := u_iaddT (s_iadd hq_119 (by decide +kernel) rfl : e_Sn 119 265 (o_iadd 266)) t_119_266
noncomputable def n_119_264 : e_Y := u_push (.inl 2147483651) n_119_265
theorem t_119_264 : e_Sn 119 264 (e_un n_119_264) := u_pushT (s_iconst (n := (3)) hq_119 (by decide +kernel) rfl ⟨by decide +kernel, by decide +kernel⟩ : e_Sn 119 264 (o_push (.inl 2147483651) 265)) t_119_265
noncomputable def n_119_262 : e_Y := u_ld f_okI f_l4 n_119_264
theorem t_119_262 : e_Sn 119 262 (e_un n_119_262) := u_ldIT f_l4_eq (s_iload (i := .iload 4) (len := 2) hq_119 (by decide +kernel) rfl (.inl ⟨rfl, rfl⟩) : e_Sn 119 262 (o_load e_okI 4 264)) t_119_264
noncomputable def n_119_261 : e_Y := u_ld f_okA f_l0 n_119_262
theorem t_119_261 : e_Sn 119 261 (e_un n_119_261) := u_ldAT f_l0_eq (s_aload (i := .aload_n 0) (len := 1) hq_119 (by decide +kernel) rfl (.inr ⟨0, rfl, rfl, rfl⟩) : e_Sn 119 261 (o_load e_okR 0 262)) t_119_262
noncomputable def n_119_260 : e_Y := u_ald 0 (u_old (o_ald e_fcs 261) n_119_261) n_119_261
theorem t_119_260 : e_Sn 119 260 (e_un n_119_260) := u_aldT (s_iald hq_119 (by decide +kernel) rfl : e_Sn 119 260 (o_ald e_fcs 261)) t_119_261
noncomputable def n_119_259 : e_Y := u_bin a_iadd (u_old (o_iadd 260) n_119_260) n_119_260
theorem t_119_259 : e_Sn 119 259 (e_un n_119_259) := u_iaddT (s_iadd hq_119 (by decide +kernel) rfl : e_Sn 119 259 (o_iadd 260)) t_119_260
noncomputable def n_119_258 : e_Y := u_push (.inl 2147483650) n_119_259
theorem t_119_258 : e_Sn 119 258 (e_un n_119_258) := u_pushT (s_iconst (n := (2)) hq_119 (by decide +kernel) rfl ⟨by decide +kernel, by decide +kernel⟩ : e_Sn 119 258 (o_push (.inl 2147483650) 259)) t_119_259
noncomputable def n_119_256 : e_Y := u_ld f_okI f_l4 n_119_258
theorem t_119_256 : e_Sn 119 256 (e_un n_119_256) := u_ldIT f_l4_eq (s_iload (i := .iload 4) (len := 2) hq_119 (by decide +kernel) rfl (.inl ⟨rfl, rfl⟩) : e_Sn 119 256 (o_load e_okI 4 258)) t_119_258
noncomputable def n_119_255 : e_Y := u_ld f_okA f_l0 n_119_256
theorem t_119_255 : e_Sn 119 255 (e_un n_119_255) := u_ldAT f_l0_eq (s_aload (i := .aload_n 0) (len := 1) hq_119 (by decide +kernel) rfl (.inr ⟨0, rfl, rfl, rfl⟩) : e_Sn 119 255 (o_load e_okR 0 256)) t_119_256
noncomputable def n_119_254 : e_Y := u_ald 0 (u_old (o_ald e_fcs 255) n_119_255) n_119_255
theorem t_119_254 : e_Sn 119 254 (e_un n_119_254) := u_aldT (s_iald hq_119 (by decide +kernel) rfl : e_Sn 119 254 (o_ald e_fcs 255)) t_119_255
noncomputable def n_119_253 : e_Y := u_bin a_iadd (u_old (o_iadd 254) n_119_254) n_119_254
theorem t_119_253 : e_Sn 119 253 (e_un n_119_253) := u_iaddT (s_iadd hq_119 (by decide +kernel) rfl : e_Sn 119 253 (o_iadd 254)) t_119_254
noncomputable def n_119_252 : e_Y := u_push (.inl 2147483649) n_119_253
theorem t_119_252 : e_Sn 119 252 (e_un n_119_252) := u_pushT (s_iconst (n := (1)) hq_119 (by decide +kernel) rfl ⟨by decide +kernel, by decide +kernel⟩ : e_Sn 119 252 (o_push (.inl 2147483649) 253)) t_119_253
noncomputable def n_119_250 : e_Y := u_ld f_okI f_l4 n_119_252
theorem t_119_250 : e_Sn 119 250 (e_un n_119_250) := u_ldIT f_l4_eq (s_iload (i := .iload 4) (len := 2) hq_119 (by decide +kernel) rfl (.inl ⟨rfl, rfl⟩) : e_Sn 119 250 (o_load e_okI 4 252)) t_119_252
noncomputable def n_119_249 : e_Y := u_ld f_okA f_l0 n_119_250
theorem t_119_249 : e_Sn 119 249 (e_un n_119_249) := u_ldAT f_l0_eq (s_aload (i := .aload_n 0) (len := 1) hq_119 (by decide +kernel) rfl (.inr ⟨0, rfl, rfl, rfl⟩) : e_Sn 119 249 (o_load e_okR 0 250)) t_119_250
noncomputable def n_119_248 : e_Y := u_ld f_okA f_l1 n_119_249
theorem t_119_248 : e_Sn 119 248 (e_un n_119_248) := u_ldAT f_l1_eq (s_aload (i := .aload_n 1) (len := 1) hq_119 (by decide +kernel) rfl (.inr ⟨1, rfl, rfl, rfl⟩) : e_Sn 119 248 (o_load e_okR 1 249)) t_119_249
noncomputable def n_119_245 : e_Y := n_119_1437
theorem t_119_245 : e_Sn 119 245 (e_un n_119_245) := u_gotoT (s_goto (off := (1192)) hq_119 (by decide +kernel) rfl : e_Sn 119 245 (o_goto 1437)) t_119_1437
noncomputable def n_119_243 : e_Y := u_st f_okI f_s6 n_119_245
theorem t_119_243 : e_Sn 119 243 (e_un n_119_243) := u_stIT (fun _ _ _ => f_s6_eq) (s_istore (i := .istore 6) (len := 2) hq_119 (by decide +kernel) rfl (.inl ⟨rfl, rfl⟩) : e_Sn 119 243 (o_store e_okI 6 245)) t_119_245
noncomputable def n_119_240 : e_Y := u_callV 12 73 3 22 3 n_73_0 n_119_243
theorem t_119_240 : e_Sn 119 240 (e_un n_119_240) := u_callVT rfl (s_callV (ci := 12) (C := er_12) (T := et_12) (N := 5) (index := 116) hq_119 ho_119 hy_73 hp_73 hc_73 hi_73 hd_73 (r_k8 (List.mem_of_getElem? (i := 157) (by decide +kernel))) hs_73 (r_k8 (List.mem_of_getElem? (i := 159) (by decide +kernel))) rfl (by decide +kernel) rfl : e_Sn 119 240 (o_callV (e_s1 12 73 3) 3 243)) t_73_0 t_119_243
noncomputable def n_119_239 : e_Y := u_ald 0 (u_old (o_ald e_fcs 240) n_119_240) n_119_240
theorem t_119_239 : e_Sn 119 239 (e_un n_119_239) := u_aldT (s_iald hq_119 (by decide +kernel) rfl : e_Sn 119 239 (o_ald e_fcs 240)) t_119_240
noncomputable def n_119_238 : e_Y := u_bin a_iadd (u_old (o_iadd 239) n_119_239) n_119_239
theorem t_119_238 : e_Sn 119 238 (e_un n_119_238) := u_iaddT (s_iadd hq_119 (by decide +kernel) rfl : e_Sn 119 238 (o_iadd 239)) t_119_239
noncomputable def n_119_237 : e_Y := u_push (.inl 2147483650) n_119_238
theorem t_119_237 : e_Sn 119 237 (e_un n_119_237) := u_pushT (s_iconst (n := (2)) hq_119 (by decide +kernel) rfl ⟨by decide +kernel, by decide +kernel⟩ : e_Sn 119 237 (o_push (.inl 2147483650) 238)) t_119_238
noncomputable def n_119_235 : e_Y := u_ld f_okI f_l4 n_119_237
theorem t_119_235 : e_Sn 119 235 (e_un n_119_235) := u_ldIT f_l4_eq (s_iload (i := .iload 4) (len := 2) hq_119 (by decide +kernel) rfl (.inl ⟨rfl, rfl⟩) : e_Sn 119 235 (o_load e_okI 4 237)) t_119_237
noncomputable def n_119_234 : e_Y := u_ld f_okA f_l0 n_119_235
theorem t_119_234 : e_Sn 119 234 (e_un n_119_234) := u_ldAT f_l0_eq (s_aload (i := .aload_n 0) (len := 1) hq_119 (by decide +kernel) rfl (.inr ⟨0, rfl, rfl, rfl⟩) : e_Sn 119 234 (o_load e_okR 0 235)) t_119_235
noncomputable def n_119_233 : e_Y := u_ald 0 (u_old (o_ald e_fcs 234) n_119_234) n_119_234
theorem t_119_233 : e_Sn 119 233 (e_un n_119_233) := u_aldT (s_iald hq_119 (by decide +kernel) rfl : e_Sn 119 233 (o_ald e_fcs 234)) t_119_234
noncomputable def n_119_232 : e_Y := u_bin a_iadd (u_old (o_iadd 233) n_119_233) n_119_233
theorem t_119_232 : e_Sn 119 232 (e_un n_119_232) := u_iaddT (s_iadd hq_119 (by decide +kernel) rfl : e_Sn 119 232 (o_iadd 233)) t_119_233
noncomputable def n_119_231 : e_Y := u_push (.inl 2147483649) n_119_232
theorem t_119_231 : e_Sn 119 231 (e_un n_119_231) := u_pushT (s_iconst (n := (1)) hq_119 (by decide +kernel) rfl ⟨by decide +kernel, by decide +kernel⟩ : e_Sn 119 231 (o_push (.inl 2147483649) 232)) t_119_232
noncomputable def n_119_229 : e_Y := u_ld f_okI f_l4 n_119_231
theorem t_119_229 : e_Sn 119 229 (e_un n_119_229) := u_ldIT f_l4_eq (s_iload (i := .iload 4) (len := 2) hq_119 (by decide +kernel) rfl (.inl ⟨rfl, rfl⟩) : e_Sn 119 229 (o_load e_okI 4 231)) t_119_231
noncomputable def n_119_228 : e_Y := u_ld f_okA f_l0 n_119_229
theorem t_119_228 : e_Sn 119 228 (e_un n_119_228) := u_ldAT f_l0_eq (s_aload (i := .aload_n 0) (len := 1) hq_119 (by decide +kernel) rfl (.inr ⟨0, rfl, rfl, rfl⟩) : e_Sn 119 228 (o_load e_okR 0 229)) t_119_229
noncomputable def n_119_227 : e_Y := u_ld f_okA f_l2 n_119_228
theorem t_119_227 : e_Sn 119 227 (e_un n_119_227) := u_ldAT f_l2_eq (s_aload (i := .aload_n 2) (len := 1) hq_119 (by decide +kernel) rfl (.inr ⟨2, rfl, rfl, rfl⟩) : e_Sn 119 227 (o_load e_okR 2 228)) t_119_228
noncomputable def n_119_225 : e_Y := u_st f_okI f_s5 n_119_227
theorem t_119_225 : e_Sn 119 225 (e_un n_119_225) := u_stIT (fun _ _ _ => f_s5_eq) (s_istore (i := .istore 5) (len := 2) hq_119 (by decide +kernel) rfl (.inl ⟨rfl, rfl⟩) : e_Sn 119 225 (o_store e_okI 5 227)) t_119_227
noncomputable def n_119_222 : e_Y := u_callS 60 5 24 4 n_60_0 n_119_225
theorem t_119_222 : e_Sn 119 222 (e_un n_119_222) := u_callST rfl (s_callSW (index := 111) hq_119 ho_119 hy_60 hp_60 hc_60 hi_60 hd_60 (r_k6 (List.mem_of_getElem? (i := 224) (by decide +kernel))) hs_60 (by decide +kernel) rfl : e_Sn 119 222 (o_callS 60 5 4 225)) t_60_0 t_119_225
noncomputable def n_119_221 : e_Y := u_ld f_okA f_l3 n_119_222
theorem t_119_221 : e_Sn 119 221 (e_un n_119_221) := u_ldAT f_l3_eq (s_aload (i := .aload_n 3) (len := 1) hq_119 (by decide +kernel) rfl (.inr ⟨3, rfl, rfl, rfl⟩) : e_Sn 119 221 (o_load e_okR 3 222)) t_119_222
noncomputable def n_119_220 : e_Y := u_ald 0 (u_old (o_ald e_fcs 221) n_119_221) n_119_221
theorem t_119_220 : e_Sn 119 220 (e_un n_119_220) := u_aldT (s_iald hq_119 (by decide +kernel) rfl : e_Sn 119 220 (o_ald e_fcs 221)) t_119_221
noncomputable def n_119_219 : e_Y := u_bin a_iadd (u_old (o_iadd 220) n_119_220) n_119_220
theorem t_119_219 : e_Sn 119 219 (e_un n_119_219) := u_iaddT (s_iadd hq_119 (by decide +kernel) rfl : e_Sn 119 219 (o_iadd 220)) t_119_220
noncomputable def n_119_218 : e_Y := u_push (.inl 2147483650) n_119_219
theorem t_119_218 : e_Sn 119 218 (e_un n_119_218) := u_pushT (s_iconst (n := (2)) hq_119 (by decide +kernel) rfl ⟨by decide +kernel, by decide +kernel⟩ : e_Sn 119 218 (o_push (.inl 2147483650) 219)) t_119_219
noncomputable def n_119_216 : e_Y := u_ld f_okI f_l4 n_119_218
theorem t_119_216 : e_Sn 119 216 (e_un n_119_216) := u_ldIT f_l4_eq (s_iload (i := .iload 4) (len := 2) hq_119 (by decide +kernel) rfl (.inl ⟨rfl, rfl⟩) : e_Sn 119 216 (o_load e_okI 4 218)) t_119_218
noncomputable def n_119_215 : e_Y := u_ld f_okA f_l0 n_119_216
theorem t_119_215 : e_Sn 119 215 (e_un n_119_215) := u_ldAT f_l0_eq (s_aload (i := .aload_n 0) (len := 1) hq_119 (by decide +kernel) rfl (.inr ⟨0, rfl, rfl, rfl⟩) : e_Sn 119 215 (o_load e_okR 0 216)) t_119_216
noncomputable def n_119_214 : e_Y := u_ald 0 (u_old (o_ald e_fcs 215) n_119_215) n_119_215
theorem t_119_214 : e_Sn 119 214 (e_un n_119_214) := u_aldT (s_iald hq_119 (by decide +kernel) rfl : e_Sn 119 214 (o_ald e_fcs 215)) t_119_215
noncomputable def n_119_213 : e_Y := u_bin a_iadd (u_old (o_iadd 214) n_119_214) n_119_214
theorem t_119_213 : e_Sn 119 213 (e_un n_119_213) := u_iaddT (s_iadd hq_119 (by decide +kernel) rfl : e_Sn 119 213 (o_iadd 214)) t_119_214
noncomputable def n_119_212 : e_Y := u_push (.inl 2147483649) n_119_213
theorem t_119_212 : e_Sn 119 212 (e_un n_119_212) := u_pushT (s_iconst (n := (1)) hq_119 (by decide +kernel) rfl ⟨by decide +kernel, by decide +kernel⟩ : e_Sn 119 212 (o_push (.inl 2147483649) 213)) t_119_213
noncomputable def n_119_210 : e_Y := u_ld f_okI f_l4 n_119_212
theorem t_119_210 : e_Sn 119 210 (e_un n_119_210) := u_ldIT f_l4_eq (s_iload (i := .iload 4) (len := 2) hq_119 (by decide +kernel) rfl (.inl ⟨rfl, rfl⟩) : e_Sn 119 210 (o_load e_okI 4 212)) t_119_212
noncomputable def n_119_209 : e_Y := u_ld f_okA f_l0 n_119_210
theorem t_119_209 : e_Sn 119 209 (e_un n_119_209) := u_ldAT f_l0_eq (s_aload (i := .aload_n 0) (len := 1) hq_119 (by decide +kernel) rfl (.inr ⟨0, rfl, rfl, rfl⟩) : e_Sn 119 209 (o_load e_okR 0 210)) t_119_210
noncomputable def n_119_208 : e_Y := u_ld f_okA f_l1 n_119_209
theorem t_119_208 : e_Sn 119 208 (e_un n_119_208) := u_ldAT f_l1_eq (s_aload (i := .aload_n 1) (len := 1) hq_119 (by decide +kernel) rfl (.inr ⟨1, rfl, rfl, rfl⟩) : e_Sn 119 208 (o_load e_okR 1 209)) t_119_209
noncomputable def n_119_40 : e_Y := u_tab (o_switch 2147483648 [208, 248, 338, 354, 367, 380, 393, 406, 419, 459, 487, 500, 540, 580, 608, 636, 664, 704, 744, 796, 836, 888, 916, 968, 981, 1045, 1058, 1098, 1138, 1178, 1218, 1246, 1274, 1302, 1342, 1370, 1410, 1423] 1437)
theorem t_119_40 : e_Sn 119 40 (e_un n_119_40) := u_tabT (s_switch (dflt := (1397)) (low := (0)) (hi := (37)) (offs := #[(168), (208), (298), (314), (327), (340), (353), (366), (379), (419), (447), (460), (500), (540), (568), (596), (624), (664), (704), (756), (796), (848), (876), (928), (941), (1005), (1018), (1058), (1098), (1138), (1178), (1206), (1234), (1262), (1302), (1330), (1370), (1383)]) (len := 168) hq_119 (by decide +kernel) rfl rfl rfl rfl : e_Sn 119 40 (o_switch 2147483648 [208, 248, 338, 354, 367, 380, 393, 406, 419, 459, 487, 500, 540, 580, 608, 636, 664, 704, 744, 796, 836, 888, 916, 968, 981, 1045, 1058, 1098, 1138, 1178, 1218, 1246, 1274, 1302, 1342, 1370, 1410, 1423] 1437))
noncomputable def n_119_39 : e_Y := u_bin a_iand (u_old (o_bin Nat.land 40) n_119_40) n_119_40
theorem t_119_39 : e_Sn 119 39 (e_un n_119_39) := u_iandT (s_iand hq_119 (by decide +kernel) rfl : e_Sn 119 39 (o_bin Nat.land 40)) t_119_40
noncomputable def n_119_37 : e_Y := u_push (.inl 2147483711) n_119_39
theorem t_119_37 : e_Sn 119 37 (e_un n_119_37) := u_pushT (s_bipush (n := (63)) hq_119 (by decide +kernel) rfl ⟨by decide +kernel, by decide +kernel⟩ : e_Sn 119 37 (o_push (.inl 2147483711) 39)) t_119_39
noncomputable def n_119_36 : e_Y := u_ald 0 (u_old (o_ald e_fcs 37) n_119_37) n_119_37
theorem t_119_36 : e_Sn 119 36 (e_un n_119_36) := u_aldT (s_iald hq_119 (by decide +kernel) rfl : e_Sn 119 36 (o_ald e_fcs 37)) t_119_37
noncomputable def n_119_34 : e_Y := u_ld f_okI f_l4 n_119_36
theorem t_119_34 : e_Sn 119 34 (e_un n_119_34) := u_ldIT f_l4_eq (s_iload (i := .iload 4) (len := 2) hq_119 (by decide +kernel) rfl (.inl ⟨rfl, rfl⟩) : e_Sn 119 34 (o_load e_okI 4 36)) t_119_36
noncomputable def n_119_33 : e_Y := u_ld f_okA f_l0 n_119_34
theorem t_119_33 : e_Sn 119 33 (e_un n_119_33) := u_ldAT f_l0_eq (s_aload (i := .aload_n 0) (len := 1) hq_119 (by decide +kernel) rfl (.inr ⟨0, rfl, rfl, rfl⟩) : e_Sn 119 33 (o_load e_okR 0 34)) t_119_34
noncomputable def n_119_30 : e_Y := u_jmp y_le (u_old2 (o_cgt 1443 33) 1443 n_119_1443 n_119_33) n_119_1443 n_119_33
theorem t_119_30 : e_Sn 119 30 (e_un n_119_30) := u_cgtT rfl (s_cgt (off := (1413)) hq_119 (by decide +kernel) rfl rfl : e_Sn 119 30 (o_cgt 1443 33)) t_119_1443 t_119_33
noncomputable def n_119_29 : e_Y := u_bin a_isub (u_old (o_isub 30) n_119_30) n_119_30
theorem t_119_29 : e_Sn 119 29 (e_un n_119_29) := u_isubT (s_isub hq_119 (by decide +kernel) rfl : e_Sn 119 29 (o_isub 30)) t_119_30
noncomputable def n_119_27 : e_Y := u_push (.inl 2147483655) n_119_29
theorem t_119_27 : e_Sn 119 27 (e_un n_119_27) := u_pushT (s_bipush (n := (7)) hq_119 (by decide +kernel) rfl ⟨by decide +kernel, by decide +kernel⟩ : e_Sn 119 27 (o_push (.inl 2147483655) 29)) t_119_29
noncomputable def n_119_26 : e_Y := u_old (o_alen e_fcs 27) n_119_27
theorem t_119_26 : e_Sn 119 26 (e_un n_119_26) := u_oldT (s_alen hq_119 (by decide +kernel) rfl : e_Sn 119 26 (o_alen e_fcs 27)) t_119_27 (e_cg_alen e_fcs)
noncomputable def n_119_25 : e_Y := u_ld f_okA f_l0 n_119_26
theorem t_119_25 : e_Sn 119 25 (e_un n_119_25) := u_ldAT f_l0_eq (s_aload (i := .aload_n 0) (len := 1) hq_119 (by decide +kernel) rfl (.inr ⟨0, rfl, rfl, rfl⟩) : e_Sn 119 25 (o_load e_okR 0 26)) t_119_26
noncomputable def n_119_23 : e_Y := u_ld f_okI f_l4 n_119_25
theorem t_119_23 : e_Sn 119 23 (e_un n_119_23) := u_ldIT f_l4_eq (s_iload (i := .iload 4) (len := 2) hq_119 (by decide +kernel) rfl (.inl ⟨rfl, rfl⟩) : e_Sn 119 23 (o_load e_okI 4 25)) t_119_25
noncomputable def n_119_21 : e_Y := u_st f_okI f_s4 n_119_23
theorem t_119_21 : e_Sn 119 21 (e_un n_119_21) := u_stIT (fun _ _ _ => f_s4_eq) (s_istore (i := .istore 4) (len := 2) hq_119 (by decide +kernel) rfl (.inl ⟨rfl, rfl⟩) : e_Sn 119 21 (o_store e_okI 4 23)) t_119_23
noncomputable def n_119_20 : e_Y := u_push (.inl 2147483648) n_119_21
theorem t_119_20 : e_Sn 119 20 (e_un n_119_20) := u_pushT (s_iconst (n := (0)) hq_119 (by decide +kernel) rfl ⟨by decide +kernel, by decide +kernel⟩ : e_Sn 119 20 (o_push (.inl 2147483648) 21)) t_119_21
noncomputable def n_119_19 : e_Y := u_st f_okA f_s3 n_119_20
theorem t_119_19 : e_Sn 119 19 (e_un n_119_19) := u_stAT (fun _ _ _ => f_s3_eq) (s_astore (i := .astore_n 3) (len := 1) hq_119 (by decide +kernel) rfl (.inr ⟨3, rfl, rfl, rfl⟩) : e_Sn 119 19 (o_store e_okR 3 20)) t_119_20
noncomputable def n_119_17 : e_Y := u_tab (o_newa 2 (e_L 9223372036854775808) 19)
theorem t_119_17 : e_Sn 119 17 (e_un n_119_17) := u_tabT (s_newJ r_m_1_142 hq_119 (by decide +kernel) rfl : e_Sn 119 17 (o_newa 2 (e_L 9223372036854775808) 19))
noncomputable def n_119_16 : e_Y := u_push (.inl 2147483649) n_119_17
theorem t_119_16 : e_Sn 119 16 (e_un n_119_16) := u_pushT (s_iconst (n := (1)) hq_119 (by decide +kernel) rfl ⟨by decide +kernel, by decide +kernel⟩ : e_Sn 119 16 (o_push (.inl 2147483649) 17)) t_119_17
noncomputable def n_119_15 : e_Y := u_st f_okA f_s2 n_119_16
theorem t_119_15 : e_Sn 119 15 (e_un n_119_15) := u_stAT (fun _ _ _ => f_s2_eq) (s_astore (i := .astore_n 2) (len := 1) hq_119 (by decide +kernel) rfl (.inr ⟨2, rfl, rfl, rfl⟩) : e_Sn 119 15 (o_store e_okR 2 16)) t_119_16
noncomputable def n_119_12 : e_Y := u_callI 61 1 20 1 n_61_0 n_119_15
theorem t_119_12 : e_Sn 119 12 (e_un n_119_12) := u_callIT rfl (s_callI (index := 110) hq_119 ho_119 hy_61 hp_61 hc_61 hi_61 hd_61 (r_k7 (List.mem_of_getElem? (i := 163) (by decide +kernel))) rfl rfl hs_61 (by decide +kernel) rfl : e_Sn 119 12 (o_callI 61 1 1 15)) t_61_0 t_119_15
noncomputable def n_119_11 : e_Y := u_old (o_dup 12) n_119_12
theorem t_119_11 : e_Sn 119 11 (e_un n_119_11) := u_oldT (s_dup hq_119 (by decide +kernel) rfl : e_Sn 119 11 (o_dup 12)) t_119_12 e_cg_dup
noncomputable def n_119_8 : e_Y := u_tab (o_new 12 5 ef_12 11)
theorem t_119_8 : e_Sn 119 8 (e_un n_119_8) := u_tabT (s_new (index := 108) (ci := 12) (N := 5) (C := er_12) (T := et_12) (ty0 := ey_12) (fv := eg_12) hq_119 ho_119 rfl ei_12 eo_12 (r_k7 (List.mem_of_getElem? (i := 161) (by decide +kernel))) (r_k7 (List.mem_of_getElem? (i := 162) (by decide +kernel))) r_m_1_14 eh_12 rfl (e_newrel ek_12) (by decide +kernel) rfl : e_Sn 119 8 (o_new 12 5 ef_12 11))
noncomputable def n_119_7 : e_Y := u_st f_okA f_s1 n_119_8
theorem t_119_7 : e_Sn 119 7 (e_un n_119_7) := u_stAT (fun _ _ _ => f_s1_eq) (s_astore (i := .astore_n 1) (len := 1) hq_119 (by decide +kernel) rfl (.inr ⟨1, rfl, rfl, rfl⟩) : e_Sn 119 7 (o_store e_okR 1 8)) t_119_8
noncomputable def n_119_4 : e_Y := u_callI 0 1 20 1 n_0_0 n_119_7
theorem t_119_4 : e_Sn 119 4 (e_un n_119_4) := u_callIT rfl (s_callI (index := 107) hq_119 ho_119 hy_0 hp_0 hc_0 hi_0 hd_0 (r_k1 (List.mem_of_getElem? (i := 49) (by decide +kernel))) rfl rfl hs_0 (by decide +kernel) rfl : e_Sn 119 4 (o_callI 0 1 1 7)) t_0_0 t_119_7
noncomputable def n_119_3 : e_Y := u_old (o_dup 4) n_119_4
theorem t_119_3 : e_Sn 119 3 (e_un n_119_3) := u_oldT (s_dup hq_119 (by decide +kernel) rfl : e_Sn 119 3 (o_dup 4)) t_119_4 e_cg_dup
noncomputable def n_119_0 : e_Y := u_tab (o_new 0 17 ef_0 3)
theorem t_119_0 : e_Sn 119 0 (e_un n_119_0) := u_tabT (s_new (index := 8) (ci := 0) (N := 17) (C := er_0) (T := et_0) (ty0 := ey_0) (fv := eg_0) hq_119 ho_119 rfl ei_0 eo_0 (r_k1 (List.mem_of_getElem? (i := 47) (by decide +kernel))) (r_k1 (List.mem_of_getElem? (i := 48) (by decide +kernel))) r_m_1_1 eh_0 rfl (e_newrel ek_0) (by decide +kernel) rfl : e_Sn 119 0 (o_new 0 17 ef_0 3))
noncomputable def e_tb_119 : e_X := (e_br 23 (e_br 11 (e_br 3 (e_lf 0 (e_un n_119_0)) (e_lf 3 (e_un n_119_3))) (e_br 19 (e_lf 11 (e_un n_119_11)) (e_lf 19 (e_un n_119_19)))) (e_br 248 (e_br 208 (e_lf 23 (e_un n_119_23)) (e_lf 208 (e_un n_119_208))) (e_br 367 (e_lf 248 (e_un n_119_248)) (e_br 1437 (e_lf 367 (e_un n_119_367)) (e_lf 1437 (e_un n_119_1437))))))
theorem e_tk_119 : e_Tb 119 e_tb_119 := (e_brT (e_brT (e_brT (e_lfT t_119_0) (e_lfT t_119_3)) (e_brT (e_lfT t_119_11) (e_lfT t_119_19))) (e_brT (e_brT (e_lfT t_119_23) (e_lfT t_119_208)) (e_brT (e_lfT t_119_248) (e_brT (e_lfT t_119_367) (e_lfT t_119_1437)))))
end SN
