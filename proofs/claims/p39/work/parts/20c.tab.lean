/-! TABLES, by program -/
section SN
theorem hq_50 : (e_ml[50]?).map (·.2.1) = some prog_10_method_3_code := Eq.trans (congrArg (Option.map (fun e => e.2.1)) hy_50) rfl
theorem ho_50 : (e_ml[50]?).map (·.1.cls) = some "Plateroomprinter$Sheet" := Eq.trans (congrArg (Option.map (fun e => e.1.cls)) hy_50) rfl
theorem hr_50 : (e_ml[50]?).map (·.2.2.2) = some none := Eq.trans (congrArg (Option.map (fun e => e.2.2.2)) hy_50) rfl
noncomputable def n_50_27 : e_Y := u_retV
theorem t_50_27 : e_Sn 50 27 (e_un n_50_27) := u_retVT (s_vret hq_50 hr_50 (by decide +kernel) : e_Sn 50 27 (o_retv))
noncomputable def n_50_24 : e_Y := (u_at 2)
theorem t_50_24 : e_Sn 50 24 (e_un n_50_24) := u_gotoT (s_goto (off := (-22)) hq_50 (by decide +kernel) rfl : e_Sn 50 24 (o_goto 2)) u_atT
noncomputable def n_50_21 : e_Y := u_inc f_l2 f_s2 1 n_50_24
theorem t_50_21 : e_Sn 50 21 (e_un n_50_21) := u_incT f_l2_eq (fun _ _ _ => f_s2_eq) (s_iinc (zz := (1)) hq_50 (by decide +kernel) rfl (by decide +kernel) ⟨by decide, by decide⟩ : e_Sn 50 21 (o_iinc 2 1 24)) t_50_24
noncomputable def n_50_20 : e_Y := u_ast 0 f_okI (u_old (o_ast 0 e_okI 21) n_50_21) n_50_21
theorem t_50_20 : e_Sn 50 20 (e_un n_50_20) := u_astT (fun _ => f_okI_eq) (s_iast hq_50 (by decide +kernel) rfl : e_Sn 50 20 (o_ast 0 e_okI 21)) t_50_21
noncomputable def n_50_19 : e_Y := u_ald 0 (u_old (o_ald e_fcs 20) n_50_20) n_50_20
theorem t_50_19 : e_Sn 50 19 (e_un n_50_19) := u_aldT (s_iald hq_50 (by decide +kernel) rfl : e_Sn 50 19 (o_ald e_fcs 20)) t_50_20
noncomputable def n_50_18 : e_Y := u_ld f_okI f_l2 n_50_19
theorem t_50_18 : e_Sn 50 18 (e_un n_50_18) := u_ldIT f_l2_eq (s_iload (i := .iload_n 2) (len := 1) hq_50 (by decide +kernel) rfl (.inr ⟨2, rfl, rfl, rfl⟩) : e_Sn 50 18 (o_load e_okI 2 19)) t_50_19
noncomputable def n_50_15 : e_Y := u_getf 9 0 (u_old (o_getf (e_f1 9 0) 18) n_50_18) n_50_18
theorem t_50_15 : e_Sn 50 15 (e_un n_50_15) := u_getfT (s_getf (C := er_9) (T := et_9) (N := 1) (ref := "Plateroomprinter$Sheet") (index := 9) (ci := 9) (k := 0) hq_50 ho_50 ⟨rfl, by decide, ei_9, r_m_2_4, .inl rfl⟩ (by decide +kernel) rfl : e_Sn 50 15 (o_getf (e_f1 9 0) 18)) t_50_18
noncomputable def n_50_14 : e_Y := u_ld f_okA f_l1 n_50_15
theorem t_50_14 : e_Sn 50 14 (e_un n_50_14) := u_ldAT f_l1_eq (s_aload (i := .aload_n 1) (len := 1) hq_50 (by decide +kernel) rfl (.inr ⟨1, rfl, rfl, rfl⟩) : e_Sn 50 14 (o_load e_okR 1 15)) t_50_15
noncomputable def n_50_13 : e_Y := u_ld f_okI f_l2 n_50_14
theorem t_50_13 : e_Sn 50 13 (e_un n_50_13) := u_ldIT f_l2_eq (s_iload (i := .iload_n 2) (len := 1) hq_50 (by decide +kernel) rfl (.inr ⟨2, rfl, rfl, rfl⟩) : e_Sn 50 13 (o_load e_okI 2 14)) t_50_14
noncomputable def n_50_10 : e_Y := u_getf 9 0 (u_old (o_getf (e_f1 9 0) 13) n_50_13) n_50_13
theorem t_50_10 : e_Sn 50 10 (e_un n_50_10) := u_getfT (s_getf (C := er_9) (T := et_9) (N := 1) (ref := "Plateroomprinter$Sheet") (index := 9) (ci := 9) (k := 0) hq_50 ho_50 ⟨rfl, by decide, ei_9, r_m_2_4, .inl rfl⟩ (by decide +kernel) rfl : e_Sn 50 10 (o_getf (e_f1 9 0) 13)) t_50_13
noncomputable def n_50_9 : e_Y := u_ld f_okA f_l0 n_50_10
theorem t_50_9 : e_Sn 50 9 (e_un n_50_9) := u_ldAT f_l0_eq (s_aload (i := .aload_n 0) (len := 1) hq_50 (by decide +kernel) rfl (.inr ⟨0, rfl, rfl, rfl⟩) : e_Sn 50 9 (o_load e_okR 0 10)) t_50_10
noncomputable def n_50_6 : e_Y := u_jmp y_ge (u_old2 (o_clt 9 27) 9 n_50_9 n_50_27) n_50_9 n_50_27
theorem t_50_6 : e_Sn 50 6 (e_un n_50_6) := u_cltT rfl (s_cge (off := (21)) hq_50 (by decide +kernel) rfl rfl : e_Sn 50 6 (o_clt 9 27)) t_50_9 t_50_27
noncomputable def n_50_3 : e_Y := u_push (.inl 2147483776) n_50_6
theorem t_50_3 : e_Sn 50 3 (e_un n_50_3) := u_pushT (s_sipush (n := (128)) hq_50 (by decide +kernel) rfl ⟨by decide +kernel, by decide +kernel⟩ : e_Sn 50 3 (o_push (.inl 2147483776) 6)) t_50_6
noncomputable def n_50_2 : e_Y := u_ld f_okI f_l2 n_50_3
theorem t_50_2 : e_Sn 50 2 (e_un n_50_2) := u_ldIT f_l2_eq (s_iload (i := .iload_n 2) (len := 1) hq_50 (by decide +kernel) rfl (.inr ⟨2, rfl, rfl, rfl⟩) : e_Sn 50 2 (o_load e_okI 2 3)) t_50_3
noncomputable def n_50_1 : e_Y := u_st f_okI f_s2 n_50_2
theorem t_50_1 : e_Sn 50 1 (e_un n_50_1) := u_stIT (fun _ _ _ => f_s2_eq) (s_istore (i := .istore_n 2) (len := 1) hq_50 (by decide +kernel) rfl (.inr ⟨2, rfl, rfl, rfl⟩) : e_Sn 50 1 (o_store e_okI 2 2)) t_50_2
noncomputable def n_50_0 : e_Y := u_push (.inl 2147483648) n_50_1
theorem t_50_0 : e_Sn 50 0 (e_un n_50_0) := u_pushT (s_iconst (n := (0)) hq_50 (by decide +kernel) rfl ⟨by decide +kernel, by decide +kernel⟩ : e_Sn 50 0 (o_push (.inl 2147483648) 1)) t_50_1
noncomputable def e_tb_50 : e_X := (e_br 2 (e_lf 0 (e_un n_50_0)) (e_lf 2 (e_un n_50_2)))
theorem e_tk_50 : e_Tb 50 e_tb_50 := (e_brT (e_lfT t_50_0) (e_lfT t_50_2))
theorem hq_42 : (e_ml[42]?).map (·.2.1) = some prog_7_method_12_code := Eq.trans (congrArg (Option.map (fun e => e.2.1)) hy_42) rfl
theorem ho_42 : (e_ml[42]?).map (·.1.cls) = some "Plateroomprinter$Painter" := Eq.trans (congrArg (Option.map (fun e => e.1.cls)) hy_42) rfl
theorem hr_42 : (e_ml[42]?).map (·.2.2.2) = some (some .int) := Eq.trans (congrArg (Option.map (fun e => e.2.2.2)) hy_42) rfl
noncomputable def n_42_52 : e_Y := u_retI
theorem t_42_52 : e_Sn 42 52 (e_un n_42_52) := u_retIT (s_iret hq_42 hr_42 (by decide +kernel) : e_Sn 42 52 (o_ret e_okI))
noncomputable def n_42_51 : e_Y := u_push (.inl 2147483648) n_42_52
theorem t_42_51 : e_Sn 42 51 (e_un n_42_51) := u_pushT (s_iconst (n := (0)) hq_42 (by decide +kernel) rfl ⟨by decide +kernel, by decide +kernel⟩ : e_Sn 42 51 (o_push (.inl 2147483648) 52)) t_42_52
noncomputable def n_42_48 : e_Y := u_putf 3 4 f_okI (u_old (o_putf (e_f1 3 4) e_okI 51) n_42_51) n_42_51
theorem t_42_48 : e_Sn 42 48 (e_un n_42_48) := u_putfT (fun _ => f_okI_eq) (s_putf (ty0 := ey_3) (ok := e_okI) (C := er_3) (T := et_3) (N := 5) (ref := "Plateroomprinter$Figures") (index := 257) (ci := 3) (k := 4) hq_42 ho_42 ⟨rfl, by decide, ei_3, (r_k2 (List.mem_of_getElem? (i := 25) (by decide +kernel))), .inl rfl⟩ eo_3 en_3 e_oksI (.inl rfl) (by decide +kernel) rfl : e_Sn 42 48 (o_putf (e_f1 3 4) e_okI 51)) t_42_51
noncomputable def n_42_47 : e_Y := u_push (.inl 2147483648) n_42_48
theorem t_42_47 : e_Sn 42 47 (e_un n_42_47) := u_pushT (s_iconst (n := (0)) hq_42 (by decide +kernel) rfl ⟨by decide +kernel, by decide +kernel⟩ : e_Sn 42 47 (o_push (.inl 2147483648) 48)) t_42_48
noncomputable def n_42_44 : e_Y := u_getf 11 9 (u_old (o_getf (e_f1 11 9) 47) n_42_47) n_42_47
theorem t_42_44 : e_Sn 42 44 (e_un n_42_44) := u_getfT (s_getf (C := er_11) (T := et_11) (N := 15) (ref := "Plateroomprinter$World") (index := 253) (ci := 11) (k := 9) hq_42 ho_42 ⟨rfl, by decide, ei_11, (r_k2 (List.mem_of_getElem? (i := 109) (by decide +kernel))), .inl rfl⟩ (by decide +kernel) rfl : e_Sn 42 44 (o_getf (e_f1 11 9) 47)) t_42_47
noncomputable def n_42_41 : e_Y := u_getf 6 0 (u_old (o_getf (e_f1 6 0) 44) n_42_44) n_42_44
theorem t_42_41 : e_Sn 42 41 (e_un n_42_41) := u_getfT (s_getf (C := er_6) (T := et_6) (N := 17) (ref := "Plateroomprinter$Painter") (index := 40) (ci := 6) (k := 0) hq_42 ho_42 ⟨rfl, by decide, ei_6, r_m_2_181, .inl rfl⟩ (by decide +kernel) rfl : e_Sn 42 41 (o_getf (e_f1 6 0) 44)) t_42_44
noncomputable def n_42_40 : e_Y := u_ld f_okA f_l0 n_42_41
theorem t_42_40 : e_Sn 42 40 (e_un n_42_40) := u_ldAT f_l0_eq (s_aload (i := .aload_n 0) (len := 1) hq_42 (by decide +kernel) rfl (.inr ⟨0, rfl, rfl, rfl⟩) : e_Sn 42 40 (o_load e_okR 0 41)) t_42_41
noncomputable def n_42_37 : e_Y := u_callV 9 49 1 20 1 n_49_0 n_42_40
theorem t_42_37 : e_Sn 42 37 (e_un n_42_37) := u_callVT rfl (s_callV (ci := 9) (C := er_9) (T := et_9) (N := 1) (index := 250) hq_42 ho_42 hy_49 hp_49 hc_49 hi_49 hd_49 (r_k5 (List.mem_of_getElem? (i := 45) (by decide +kernel))) hs_49 r_m_2_77 rfl (by decide +kernel) rfl : e_Sn 42 37 (o_callV (e_s1 9 49 1) 1 40)) t_49_0 t_42_40
noncomputable def n_42_34 : e_Y := u_getf 11 7 (u_old (o_getf (e_f1 11 7) 37) n_42_37) n_42_37
theorem t_42_34 : e_Sn 42 34 (e_un n_42_34) := u_getfT (s_getf (C := er_11) (T := et_11) (N := 15) (ref := "Plateroomprinter$World") (index := 242) (ci := 11) (k := 7) hq_42 ho_42 ⟨rfl, by decide, ei_11, r_m_2_103, .inl rfl⟩ (by decide +kernel) rfl : e_Sn 42 34 (o_getf (e_f1 11 7) 37)) t_42_37
noncomputable def n_42_31 : e_Y := u_getf 6 0 (u_old (o_getf (e_f1 6 0) 34) n_42_34) n_42_34
theorem t_42_31 : e_Sn 42 31 (e_un n_42_31) := u_getfT (s_getf (C := er_6) (T := et_6) (N := 17) (ref := "Plateroomprinter$Painter") (index := 40) (ci := 6) (k := 0) hq_42 ho_42 ⟨rfl, by decide, ei_6, r_m_2_181, .inl rfl⟩ (by decide +kernel) rfl : e_Sn 42 31 (o_getf (e_f1 6 0) 34)) t_42_34
noncomputable def n_42_30 : e_Y := u_ld f_okA f_l0 n_42_31
theorem t_42_30 : e_Sn 42 30 (e_un n_42_30) := u_ldAT f_l0_eq (s_aload (i := .aload_n 0) (len := 1) hq_42 (by decide +kernel) rfl (.inr ⟨0, rfl, rfl, rfl⟩) : e_Sn 42 30 (o_load e_okR 0 31)) t_42_31
noncomputable def n_42_27 : e_Y := u_callV 9 50 3 22 2 n_50_0 n_42_30
theorem t_42_27 : e_Sn 42 27 (e_un n_42_27) := u_callVT rfl (s_callV (ci := 9) (C := er_9) (T := et_9) (N := 1) (index := 245) hq_42 ho_42 hy_50 hp_50 hc_50 hi_50 hd_50 (r_k5 (List.mem_of_getElem? (i := 44) (by decide +kernel))) hs_50 r_m_3_152 rfl (by decide +kernel) rfl : e_Sn 42 27 (o_callV (e_s1 9 50 3) 2 30)) t_50_0 t_42_30
noncomputable def n_42_24 : e_Y := u_getf 11 7 (u_old (o_getf (e_f1 11 7) 27) n_42_27) n_42_27
theorem t_42_24 : e_Sn 42 24 (e_un n_42_24) := u_getfT (s_getf (C := er_11) (T := et_11) (N := 15) (ref := "Plateroomprinter$World") (index := 242) (ci := 11) (k := 7) hq_42 ho_42 ⟨rfl, by decide, ei_11, r_m_2_103, .inl rfl⟩ (by decide +kernel) rfl : e_Sn 42 24 (o_getf (e_f1 11 7) 27)) t_42_27
noncomputable def n_42_21 : e_Y := u_getf 6 0 (u_old (o_getf (e_f1 6 0) 24) n_42_24) n_42_24
theorem t_42_21 : e_Sn 42 21 (e_un n_42_21) := u_getfT (s_getf (C := er_6) (T := et_6) (N := 17) (ref := "Plateroomprinter$Painter") (index := 40) (ci := 6) (k := 0) hq_42 ho_42 ⟨rfl, by decide, ei_6, r_m_2_181, .inl rfl⟩ (by decide +kernel) rfl : e_Sn 42 21 (o_getf (e_f1 6 0) 24)) t_42_24
noncomputable def n_42_20 : e_Y := u_ld f_okA f_l0 n_42_21
theorem t_42_20 : e_Sn 42 20 (e_un n_42_20) := u_ldAT f_l0_eq (s_aload (i := .aload_n 0) (len := 1) hq_42 (by decide +kernel) rfl (.inr ⟨0, rfl, rfl, rfl⟩) : e_Sn 42 20 (o_load e_okR 0 21)) t_42_21
noncomputable def n_42_17 : e_Y := u_getf 11 8 (u_old (o_getf (e_f1 11 8) 20) n_42_20) n_42_20
theorem t_42_17 : e_Sn 42 17 (e_un n_42_17) := u_getfT (s_getf (C := er_11) (T := et_11) (N := 15) (ref := "Plateroomprinter$World") (index := 238) (ci := 11) (k := 8) hq_42 ho_42 ⟨rfl, by decide, ei_11, (r_k2 (List.mem_of_getElem? (i := 106) (by decide +kernel))), .inl rfl⟩ (by decide +kernel) rfl : e_Sn 42 17 (o_getf (e_f1 11 8) 20)) t_42_20
noncomputable def n_42_14 : e_Y := u_getf 6 0 (u_old (o_getf (e_f1 6 0) 17) n_42_17) n_42_17
theorem t_42_14 : e_Sn 42 14 (e_un n_42_14) := u_getfT (s_getf (C := er_6) (T := et_6) (N := 17) (ref := "Plateroomprinter$Painter") (index := 40) (ci := 6) (k := 0) hq_42 ho_42 ⟨rfl, by decide, ei_6, r_m_2_181, .inl rfl⟩ (by decide +kernel) rfl : e_Sn 42 14 (o_getf (e_f1 6 0) 17)) t_42_17
noncomputable def n_42_13 : e_Y := u_ld f_okA f_l0 n_42_14
theorem t_42_13 : e_Sn 42 13 (e_un n_42_13) := u_ldAT f_l0_eq (s_aload (i := .aload_n 0) (len := 1) hq_42 (by decide +kernel) rfl (.inr ⟨0, rfl, rfl, rfl⟩) : e_Sn 42 13 (o_load e_okR 0 14)) t_42_14
noncomputable def n_42_10 : e_Y := u_putf 11 10 f_okI (u_old (o_putf (e_f1 11 10) e_okI 13) n_42_13) n_42_13
theorem t_42_10 : e_Sn 42 10 (e_un n_42_10) := u_putfT (fun _ => f_okI_eq) (s_putf (ty0 := ey_11) (ok := e_okI) (C := er_11) (T := et_11) (N := 15) (ref := "Plateroomprinter$World") (index := 235) (ci := 11) (k := 10) hq_42 ho_42 ⟨rfl, by decide, ei_11, r_m_2_113, .inl rfl⟩ eo_11 en_11 e_oksI (.inl rfl) (by decide +kernel) rfl : e_Sn 42 10 (o_putf (e_f1 11 10) e_okI 13)) t_42_13
noncomputable def n_42_9 : e_Y := u_bin a_iadd (u_old (o_iadd 10) n_42_10) n_42_10
theorem t_42_9 : e_Sn 42 9 (e_un n_42_9) := u_iaddT (s_iadd hq_42 (by decide +kernel) rfl : e_Sn 42 9 (o_iadd 10)) t_42_10
noncomputable def n_42_8 : e_Y := u_push (.inl 2147483649) n_42_9
theorem t_42_8 : e_Sn 42 8 (e_un n_42_8) := u_pushT (s_iconst (n := (1)) hq_42 (by decide +kernel) rfl ⟨by decide +kernel, by decide +kernel⟩ : e_Sn 42 8 (o_push (.inl 2147483649) 9)) t_42_9
noncomputable def n_42_5 : e_Y := u_getf 11 10 (u_old (o_getf (e_f1 11 10) 8) n_42_8) n_42_8
theorem t_42_5 : e_Sn 42 5 (e_un n_42_5) := u_getfT (s_getf (C := er_11) (T := et_11) (N := 15) (ref := "Plateroomprinter$World") (index := 235) (ci := 11) (k := 10) hq_42 ho_42 ⟨rfl, by decide, ei_11, r_m_2_113, .inl rfl⟩ (by decide +kernel) rfl : e_Sn 42 5 (o_getf (e_f1 11 10) 8)) t_42_8
noncomputable def n_42_4 : e_Y := u_old (o_dup 5) n_42_5
theorem t_42_4 : e_Sn 42 4 (e_un n_42_4) := u_oldT (s_dup hq_42 (by decide +kernel) rfl : e_Sn 42 4 (o_dup 5)) t_42_5 e_cg_dup
noncomputable def n_42_1 : e_Y := u_getf 6 0 (u_old (o_getf (e_f1 6 0) 4) n_42_4) n_42_4
theorem t_42_1 : e_Sn 42 1 (e_un n_42_1) := u_getfT (s_getf (C := er_6) (T := et_6) (N := 17) (ref := "Plateroomprinter$Painter") (index := 40) (ci := 6) (k := 0) hq_42 ho_42 ⟨rfl, by decide, ei_6, r_m_2_181, .inl rfl⟩ (by decide +kernel) rfl : e_Sn 42 1 (o_getf (e_f1 6 0) 4)) t_42_4
noncomputable def n_42_0 : e_Y := u_ld f_okA f_l0 n_42_1
theorem t_42_0 : e_Sn 42 0 (e_un n_42_0) := u_ldAT f_l0_eq (s_aload (i := .aload_n 0) (len := 1) hq_42 (by decide +kernel) rfl (.inr ⟨0, rfl, rfl, rfl⟩) : e_Sn 42 0 (o_load e_okR 0 1)) t_42_1
noncomputable def e_tb_42 : e_X := (e_lf 0 (e_un n_42_0))
theorem e_tk_42 : e_Tb 42 e_tb_42 := (e_lfT t_42_0)
theorem hq_41 : (e_ml[41]?).map (·.2.1) = some prog_7_method_3_code := Eq.trans (congrArg (Option.map (fun e => e.2.1)) hy_41) rfl
theorem ho_41 : (e_ml[41]?).map (·.1.cls) = some "Plateroomprinter$Painter" := Eq.trans (congrArg (Option.map (fun e => e.1.cls)) hy_41) rfl
theorem hr_41 : (e_ml[41]?).map (·.2.2.2) = some (some .int) := Eq.trans (congrArg (Option.map (fun e => e.2.2.2)) hy_41) rfl
noncomputable def n_41_282 : e_Y := u_retI
theorem t_41_282 : e_Sn 41 282 (e_un n_41_282) := u_retIT (s_iret hq_41 hr_41 (by decide +kernel) : e_Sn 41 282 (o_ret e_okI))
noncomputable def n_41_279 : e_Y := u_callV 6 42 1 20 1 n_42_0 n_41_282
theorem t_41_279 : e_Sn 41 279 (e_un n_41_279) := u_callVT rfl (s_callV (ci := 6) (C := er_6) (T := et_6) (N := 17) (index := 104) hq_41 ho_41 hy_42 hp_42 hc_42 hi_42 hd_42 (r_k5 (List.mem_of_getElem? (i := 40) (by decide +kernel))) hs_42 (List.mem_of_getElem? (i := 8) (by decide +kernel)) rfl (by decide +kernel) rfl : e_Sn 41 279 (o_callV (e_s1 6 42 1) 1 282)) t_42_0 t_41_282
noncomputable def n_41_278 : e_Y := u_ld f_okA f_l0 n_41_279
theorem t_41_278 : e_Sn 41 278 (e_un n_41_278) := u_ldAT f_l0_eq (s_aload (i := .aload_n 0) (len := 1) hq_41 (by decide +kernel) rfl (.inr ⟨0, rfl, rfl, rfl⟩) : e_Sn 41 278 (o_load e_okR 0 279)) t_41_279
noncomputable def n_41_1 : e_Y := u_tab (o_switch 2147483669 [144, 149, 154, 171, 194, 209, 283, 283, 283, 283, 283, 283, 283, 283, 283, 283, 283, 283, 283, 283, 283, 283, 283, 283, 283, 283, 226, 236, 248, 256, 264, 278] 283)
theorem t_41_1 : e_Sn 41 1 (e_un n_41_1) := u_tabT (s_switch (dflt := (282)) (low := (21)) (hi := (52)) (offs := #[(143), (148), (153), (170), (193), (208), (282), (282), (282), (282), (282), (282), (282), (282), (282), (282), (282), (282), (282), (282), (282), (282), (282), (282), (282), (282), (225), (235), (247), (255), (263), (277)]) (len := 143) hq_41 (by decide +kernel) rfl rfl rfl rfl : e_Sn 41 1 (o_switch 2147483669 [144, 149, 154, 171, 194, 209, 283, 283, 283, 283, 283, 283, 283, 283, 283, 283, 283, 283, 283, 283, 283, 283, 283, 283, 283, 283, 226, 236, 248, 256, 264, 278] 283))
noncomputable def n_41_0 : e_Y := u_ld f_okI f_l1 n_41_1
theorem t_41_0 : e_Sn 41 0 (e_un n_41_0) := u_ldIT f_l1_eq (s_iload (i := .iload_n 1) (len := 1) hq_41 (by decide +kernel) rfl (.inr ⟨1, rfl, rfl, rfl⟩) : e_Sn 41 0 (o_load e_okI 1 1)) t_41_1
noncomputable def e_tb_41 : e_X := (e_br 278 (e_lf 0 (e_un n_41_0)) (e_lf 278 (e_un n_41_278)))
theorem e_tk_41 : e_Tb 41 e_tb_41 := (e_brT (e_lfT t_41_0) (e_lfT t_41_278))
theorem hq_43 : (e_ml[43]?).map (·.2.1) = some prog_7_method_2_code := Eq.trans (congrArg (Option.map (fun e => e.2.1)) hy_43) rfl
theorem ho_43 : (e_ml[43]?).map (·.1.cls) = some "Plateroomprinter$Painter" := Eq.trans (congrArg (Option.map (fun e => e.1.cls)) hy_43) rfl
theorem hr_43 : (e_ml[43]?).map (·.2.2.2) = some (some .int) := Eq.trans (congrArg (Option.map (fun e => e.2.2.2)) hy_43) rfl
noncomputable def n_43_11 : e_Y := u_retI
theorem t_43_11 : e_Sn 43 11 (e_un n_43_11) := u_retIT (s_iret hq_43 hr_43 (by decide +kernel) : e_Sn 43 11 (o_ret e_okI))
noncomputable def n_43_10 : e_Y := u_ld f_okI f_l1 n_43_11
theorem t_43_10 : e_Sn 43 10 (e_un n_43_10) := u_ldIT f_l1_eq (s_iload (i := .iload_n 1) (len := 1) hq_43 (by decide +kernel) rfl (.inr ⟨1, rfl, rfl, rfl⟩) : e_Sn 43 10 (o_load e_okI 1 11)) t_43_11
noncomputable def n_43_7 : e_Y := u_putf 6 6 f_okI (u_old (o_putf (e_f1 6 6) e_okI 10) n_43_10) n_43_10
theorem t_43_7 : e_Sn 43 7 (e_un n_43_7) := u_putfT (fun _ => f_okI_eq) (s_putf (ty0 := ey_6) (ok := e_okI) (C := er_6) (T := et_6) (N := 17) (ref := "Plateroomprinter$Painter") (index := 55) (ci := 6) (k := 6) hq_43 ho_43 ⟨rfl, by decide, ei_6, r_m_2_187, .inl rfl⟩ eo_6 en_6 e_oksI (.inl rfl) (by decide +kernel) rfl : e_Sn 43 7 (o_putf (e_f1 6 6) e_okI 10)) t_43_10
noncomputable def n_43_6 : e_Y := u_push (.inl 2147483648) n_43_7
theorem t_43_6 : e_Sn 43 6 (e_un n_43_6) := u_pushT (s_iconst (n := (0)) hq_43 (by decide +kernel) rfl ⟨by decide +kernel, by decide +kernel⟩ : e_Sn 43 6 (o_push (.inl 2147483648) 7)) t_43_7
noncomputable def n_43_5 : e_Y := u_ld f_okA f_l0 n_43_6
theorem t_43_5 : e_Sn 43 5 (e_un n_43_5) := u_ldAT f_l0_eq (s_aload (i := .aload_n 0) (len := 1) hq_43 (by decide +kernel) rfl (.inr ⟨0, rfl, rfl, rfl⟩) : e_Sn 43 5 (o_load e_okR 0 6)) t_43_6
noncomputable def n_43_4 : e_Y := u_st f_okI f_s1 n_43_5
theorem t_43_4 : e_Sn 43 4 (e_un n_43_4) := u_stIT (fun _ _ _ => f_s1_eq) (s_istore (i := .istore_n 1) (len := 1) hq_43 (by decide +kernel) rfl (.inr ⟨1, rfl, rfl, rfl⟩) : e_Sn 43 4 (o_store e_okI 1 5)) t_43_5
noncomputable def n_43_1 : e_Y := u_getf 6 6 (u_old (o_getf (e_f1 6 6) 4) n_43_4) n_43_4
theorem t_43_1 : e_Sn 43 1 (e_un n_43_1) := u_getfT (s_getf (C := er_6) (T := et_6) (N := 17) (ref := "Plateroomprinter$Painter") (index := 55) (ci := 6) (k := 6) hq_43 ho_43 ⟨rfl, by decide, ei_6, r_m_2_187, .inl rfl⟩ (by decide +kernel) rfl : e_Sn 43 1 (o_getf (e_f1 6 6) 4)) t_43_4
noncomputable def n_43_0 : e_Y := u_ld f_okA f_l0 n_43_1
theorem t_43_0 : e_Sn 43 0 (e_un n_43_0) := u_ldAT f_l0_eq (s_aload (i := .aload_n 0) (len := 1) hq_43 (by decide +kernel) rfl (.inr ⟨0, rfl, rfl, rfl⟩) : e_Sn 43 0 (o_load e_okR 0 1)) t_43_1
noncomputable def e_tb_43 : e_X := (e_lf 0 (e_un n_43_0))
theorem e_tk_43 : e_Tb 43 e_tb_43 := (e_lfT t_43_0)
theorem hq_28 : (e_ml[28]?).map (·.2.1) = some prog_4_method_2_code := Eq.trans (congrArg (Option.map (fun e => e.2.1)) hy_28) rfl
theorem ho_28 : (e_ml[28]?).map (·.1.cls) = some "Plateroomprinter$Figures" := Eq.trans (congrArg (Option.map (fun e => e.1.cls)) hy_28) rfl
theorem hr_28 : (e_ml[28]?).map (·.2.2.2) = some none := Eq.trans (congrArg (Option.map (fun e => e.2.2.2)) hy_28) rfl
noncomputable def n_28_107 : e_Y := u_retV
theorem t_28_107 : e_Sn 28 107 (e_un n_28_107) := u_retVT (s_vret hq_28 hr_28 (by decide +kernel) : e_Sn 28 107 (o_retv))
noncomputable def n_28_104 : e_Y := u_putf 3 4 f_okI (u_old (o_putf (e_f1 3 4) e_okI 107) n_28_107) n_28_107
theorem t_28_104 : e_Sn 28 104 (e_un n_28_104) := u_putfT (fun _ => f_okI_eq) (s_putf (ty0 := ey_3) (ok := e_okI) (C := er_3) (T := et_3) (N := 5) (ref := "Plateroomprinter$Figures") (index := 24) (ci := 3) (k := 4) hq_28 ho_28 ⟨rfl, by decide, ei_3, r_m_2_23, .inl rfl⟩ eo_3 en_3 e_oksI (.inl rfl) (by decide +kernel) rfl : e_Sn 28 104 (o_putf (e_f1 3 4) e_okI 107)) t_28_107
noncomputable def n_28_103 : e_Y := u_ld f_okI f_l2 n_28_104
theorem t_28_103 : e_Sn 28 103 (e_un n_28_103) := u_ldIT f_l2_eq (s_iload (i := .iload_n 2) (len := 1) hq_28 (by decide +kernel) rfl (.inr ⟨2, rfl, rfl, rfl⟩) : e_Sn 28 103 (o_load e_okI 2 104)) t_28_104
noncomputable def n_28_102 : e_Y := u_ld f_okA f_l0 n_28_103
theorem t_28_102 : e_Sn 28 102 (e_un n_28_102) := u_ldAT f_l0_eq (s_aload (i := .aload_n 0) (len := 1) hq_28 (by decide +kernel) rfl (.inr ⟨0, rfl, rfl, rfl⟩) : e_Sn 28 102 (o_load e_okR 0 103)) t_28_103
noncomputable def n_28_69 : e_Y := u_jmp y_ge (u_old2 (o_clt 72 102) 72 (u_at 72) n_28_102) (u_at 72) n_28_102
theorem t_28_69 : e_Sn 28 69 (e_un n_28_69) := u_cltT rfl (s_cge (off := (33)) hq_28 (by decide +kernel) rfl rfl : e_Sn 28 69 (o_clt 72 102)) u_atT t_28_102
noncomputable def n_28_68 : e_Y := u_ld f_okI f_l2 n_28_69
theorem t_28_68 : e_Sn 28 68 (e_un n_28_68) := u_ldIT f_l2_eq (s_iload (i := .iload_n 2) (len := 1) hq_28 (by decide +kernel) rfl (.inr ⟨2, rfl, rfl, rfl⟩) : e_Sn 28 68 (o_load e_okI 2 69)) t_28_69
noncomputable def n_28_67 : e_Y := u_ld f_okI f_l3 n_28_68
theorem t_28_67 : e_Sn 28 67 (e_un n_28_67) := u_ldIT f_l3_eq (s_iload (i := .iload_n 3) (len := 1) hq_28 (by decide +kernel) rfl (.inr ⟨3, rfl, rfl, rfl⟩) : e_Sn 28 67 (o_load e_okI 3 68)) t_28_68
noncomputable def n_28_66 : e_Y := u_st f_okI f_s3 n_28_67
theorem t_28_66 : e_Sn 28 66 (e_un n_28_66) := u_stIT (fun _ _ _ => f_s3_eq) (s_istore (i := .istore_n 3) (len := 1) hq_28 (by decide +kernel) rfl (.inr ⟨3, rfl, rfl, rfl⟩) : e_Sn 28 66 (o_store e_okI 3 67)) t_28_67
noncomputable def n_28_65 : e_Y := u_push (.inl 2147483648) n_28_66
theorem t_28_65 : e_Sn 28 65 (e_un n_28_65) := u_pushT (s_iconst (n := (0)) hq_28 (by decide +kernel) rfl ⟨by decide +kernel, by decide +kernel⟩ : e_Sn 28 65 (o_push (.inl 2147483648) 66)) t_28_66
noncomputable def n_28_44 : e_Y := u_jmp y_ge (u_old2 (o_clt 47 65) 47 (u_at 47) n_28_65) (u_at 47) n_28_65
theorem t_28_44 : e_Sn 28 44 (e_un n_28_44) := u_cltT rfl (s_cge (off := (21)) hq_28 (by decide +kernel) rfl rfl : e_Sn 28 44 (o_clt 47 65)) u_atT t_28_65
noncomputable def n_28_43 : e_Y := u_bin a_imul (u_old (o_imul 44) n_28_44) n_28_44
theorem t_28_43 : e_Sn 28 43 (e_un n_28_43) := u_imulT (s_imul hq_28 (by decide +kernel) rfl : e_Sn 28 43 (o_imul 44)) t_28_44
noncomputable def n_28_42 : e_Y := u_push (.inl 2147483652) n_28_43
theorem t_28_42 : e_Sn 28 42 (e_un n_28_42) := u_pushT (s_iconst (n := (4)) hq_28 (by decide +kernel) rfl ⟨by decide +kernel, by decide +kernel⟩ : e_Sn 28 42 (o_push (.inl 2147483652) 43)) t_28_43
noncomputable def n_28_41 : e_Y := u_ld f_okI f_l2 n_28_42
theorem t_28_41 : e_Sn 28 41 (e_un n_28_41) := u_ldIT f_l2_eq (s_iload (i := .iload_n 2) (len := 1) hq_28 (by decide +kernel) rfl (.inr ⟨2, rfl, rfl, rfl⟩) : e_Sn 28 41 (o_load e_okI 2 42)) t_28_42
noncomputable def n_28_40 : e_Y := u_ld f_okI f_l3 n_28_41
theorem t_28_40 : e_Sn 28 40 (e_un n_28_40) := u_ldIT f_l3_eq (s_iload (i := .iload_n 3) (len := 1) hq_28 (by decide +kernel) rfl (.inr ⟨3, rfl, rfl, rfl⟩) : e_Sn 28 40 (o_load e_okI 3 41)) t_28_41
noncomputable def n_28_39 : e_Y := u_st f_okI f_s3 n_28_40
theorem t_28_39 : e_Sn 28 39 (e_un n_28_39) := u_stIT (fun _ _ _ => f_s3_eq) (s_istore (i := .istore_n 3) (len := 1) hq_28 (by decide +kernel) rfl (.inr ⟨3, rfl, rfl, rfl⟩) : e_Sn 28 39 (o_store e_okI 3 40)) t_28_40
noncomputable def n_28_38 : e_Y := u_push (.inl 2147483648) n_28_39
theorem t_28_38 : e_Sn 28 38 (e_un n_28_38) := u_pushT (s_iconst (n := (0)) hq_28 (by decide +kernel) rfl ⟨by decide +kernel, by decide +kernel⟩ : e_Sn 28 38 (o_push (.inl 2147483648) 39)) t_28_39
noncomputable def n_28_17 : e_Y := u_jmp y_ge (u_old2 (o_clt 20 38) 20 (u_at 20) n_28_38) (u_at 20) n_28_38
theorem t_28_17 : e_Sn 28 17 (e_un n_28_17) := u_cltT rfl (s_cge (off := (21)) hq_28 (by decide +kernel) rfl rfl : e_Sn 28 17 (o_clt 20 38)) u_atT t_28_38
noncomputable def n_28_16 : e_Y := u_bin a_imul (u_old (o_imul 17) n_28_17) n_28_17
theorem t_28_16 : e_Sn 28 16 (e_un n_28_16) := u_imulT (s_imul hq_28 (by decide +kernel) rfl : e_Sn 28 16 (o_imul 17)) t_28_17
noncomputable def n_28_14 : e_Y := u_push (.inl 2147483680) n_28_16
theorem t_28_14 : e_Sn 28 14 (e_un n_28_14) := u_pushT (s_bipush (n := (32)) hq_28 (by decide +kernel) rfl ⟨by decide +kernel, by decide +kernel⟩ : e_Sn 28 14 (o_push (.inl 2147483680) 16)) t_28_16
noncomputable def n_28_13 : e_Y := u_ld f_okI f_l2 n_28_14
theorem t_28_13 : e_Sn 28 13 (e_un n_28_13) := u_ldIT f_l2_eq (s_iload (i := .iload_n 2) (len := 1) hq_28 (by decide +kernel) rfl (.inr ⟨2, rfl, rfl, rfl⟩) : e_Sn 28 13 (o_load e_okI 2 14)) t_28_14
noncomputable def n_28_12 : e_Y := u_ld f_okI f_l3 n_28_13
theorem t_28_12 : e_Sn 28 12 (e_un n_28_12) := u_ldIT f_l3_eq (s_iload (i := .iload_n 3) (len := 1) hq_28 (by decide +kernel) rfl (.inr ⟨3, rfl, rfl, rfl⟩) : e_Sn 28 12 (o_load e_okI 3 13)) t_28_13
noncomputable def n_28_11 : e_Y := u_st f_okI f_s3 n_28_12
theorem t_28_11 : e_Sn 28 11 (e_un n_28_11) := u_stIT (fun _ _ _ => f_s3_eq) (s_istore (i := .istore_n 3) (len := 1) hq_28 (by decide +kernel) rfl (.inr ⟨3, rfl, rfl, rfl⟩) : e_Sn 28 11 (o_store e_okI 3 12)) t_28_12
noncomputable def n_28_10 : e_Y := u_push (.inl 2147483648) n_28_11
theorem t_28_10 : e_Sn 28 10 (e_un n_28_10) := u_pushT (s_iconst (n := (0)) hq_28 (by decide +kernel) rfl ⟨by decide +kernel, by decide +kernel⟩ : e_Sn 28 10 (o_push (.inl 2147483648) 11)) t_28_11
noncomputable def n_28_9 : e_Y := u_st f_okI f_s2 n_28_10
theorem t_28_9 : e_Sn 28 9 (e_un n_28_9) := u_stIT (fun _ _ _ => f_s2_eq) (s_istore (i := .istore_n 2) (len := 1) hq_28 (by decide +kernel) rfl (.inr ⟨2, rfl, rfl, rfl⟩) : e_Sn 28 9 (o_store e_okI 2 10)) t_28_10
noncomputable def n_28_6 : e_Y := u_tab (o_mmin 9)
theorem t_28_6 : e_Sn 28 6 (e_un n_28_6) := u_tabT (s_mmin (index := 28) hq_28 ho_28 (r_k3 (List.mem_of_getElem? (i := 158) (by decide +kernel))) r_m_2_48 r_m_1_5 r_m_2_49 (by decide +kernel) rfl : e_Sn 28 6 (o_mmin 9))
noncomputable def n_28_4 : e_Y := u_push (.inl 2147483708) n_28_6
theorem t_28_4 : e_Sn 28 4 (e_un n_28_4) := u_pushT (s_bipush (n := (60)) hq_28 (by decide +kernel) rfl ⟨by decide +kernel, by decide +kernel⟩ : e_Sn 28 4 (o_push (.inl 2147483708) 6)) t_28_6
noncomputable def n_28_1 : e_Y := u_getf 3 4 (u_old (o_getf (e_f1 3 4) 4) n_28_4) n_28_4
theorem t_28_1 : e_Sn 28 1 (e_un n_28_1) := u_getfT (s_getf (C := er_3) (T := et_3) (N := 5) (ref := "Plateroomprinter$Figures") (index := 24) (ci := 3) (k := 4) hq_28 ho_28 ⟨rfl, by decide, ei_3, r_m_2_23, .inl rfl⟩ (by decide +kernel) rfl : e_Sn 28 1 (o_getf (e_f1 3 4) 4)) t_28_4
noncomputable def n_28_0 : e_Y := u_ld f_okA f_l1 n_28_1
theorem t_28_0 : e_Sn 28 0 (e_un n_28_0) := u_ldAT f_l1_eq (s_aload (i := .aload_n 1) (len := 1) hq_28 (by decide +kernel) rfl (.inr ⟨1, rfl, rfl, rfl⟩) : e_Sn 28 0 (o_load e_okR 1 1)) t_28_1
noncomputable def e_tb_28 : e_X := (e_br 9 (e_lf 0 (e_un n_28_0)) (e_lf 9 (e_un n_28_9)))
theorem e_tk_28 : e_Tb 28 e_tb_28 := (e_brT (e_lfT t_28_0) (e_lfT t_28_9))
theorem hq_31 : (e_ml[31]?).map (·.2.1) = some prog_5_method_3_code := Eq.trans (congrArg (Option.map (fun e => e.2.1)) hy_31) rfl
theorem ho_31 : (e_ml[31]?).map (·.1.cls) = some "Plateroomprinter$Items" := Eq.trans (congrArg (Option.map (fun e => e.1.cls)) hy_31) rfl
theorem hr_31 : (e_ml[31]?).map (·.2.2.2) = some none := Eq.trans (congrArg (Option.map (fun e => e.2.2.2)) hy_31) rfl
noncomputable def n_31_60 : e_Y := u_retV
theorem t_31_60 : e_Sn 31 60 (e_un n_31_60) := u_retVT (s_vret hq_31 hr_31 (by decide +kernel) : e_Sn 31 60 (o_retv))
noncomputable def n_31_57 : e_Y := (u_at 26)
theorem t_31_57 : e_Sn 31 57 (e_un n_31_57) := u_gotoT (s_goto (off := (-31)) hq_31 (by decide +kernel) rfl : e_Sn 31 57 (o_goto 26)) u_atT
noncomputable def n_31_54 : e_Y := u_inc f_l3 f_s3 1 n_31_57
theorem t_31_54 : e_Sn 31 54 (e_un n_31_54) := u_incT f_l3_eq (fun _ _ _ => f_s3_eq) (s_iinc (zz := (1)) hq_31 (by decide +kernel) rfl (by decide +kernel) ⟨by decide, by decide⟩ : e_Sn 31 54 (o_iinc 3 1 57)) t_31_57
noncomputable def n_31_51 : e_Y := u_callV 4 36 5 24 5 n_36_0 n_31_54
theorem t_31_51 : e_Sn 31 51 (e_un n_31_51) := u_callVT rfl (s_callV (ci := 4) (C := er_4) (T := et_4) (N := 5) (index := 37) hq_31 ho_31 hy_36 hp_36 hc_36 hi_36 hd_36 r_m_2_50 hs_36 r_m_2_52 rfl (by decide +kernel) rfl : e_Sn 31 51 (o_callV (e_s1 4 36 5) 5 54)) t_36_0 t_31_54
noncomputable def n_31_50 : e_Y := u_ald 0 (u_old (o_ald e_fcs 51) n_31_51) n_31_51
theorem t_31_50 : e_Sn 31 50 (e_un n_31_50) := u_aldT (s_iald hq_31 (by decide +kernel) rfl : e_Sn 31 50 (o_ald e_fcs 51)) t_31_51
noncomputable def n_31_49 : e_Y := u_ld f_okI f_l3 n_31_50
theorem t_31_49 : e_Sn 31 49 (e_un n_31_49) := u_ldIT f_l3_eq (s_iload (i := .iload_n 3) (len := 1) hq_31 (by decide +kernel) rfl (.inr ⟨3, rfl, rfl, rfl⟩) : e_Sn 31 49 (o_load e_okI 3 50)) t_31_50
noncomputable def n_31_46 : e_Y := u_getf 4 3 (u_old (o_getf (e_f1 4 3) 49) n_31_49) n_31_49
theorem t_31_46 : e_Sn 31 46 (e_un n_31_46) := u_getfT (s_getf (C := er_4) (T := et_4) (N := 5) (ref := "Plateroomprinter$Items") (index := 28) (ci := 4) (k := 3) hq_31 ho_31 ⟨rfl, by decide, ei_4, r_m_1_97, .inl rfl⟩ (by decide +kernel) rfl : e_Sn 31 46 (o_getf (e_f1 4 3) 49)) t_31_49
noncomputable def n_31_45 : e_Y := u_ld f_okA f_l1 n_31_46
theorem t_31_45 : e_Sn 31 45 (e_un n_31_45) := u_ldAT f_l1_eq (s_aload (i := .aload_n 1) (len := 1) hq_31 (by decide +kernel) rfl (.inr ⟨1, rfl, rfl, rfl⟩) : e_Sn 31 45 (o_load e_okR 1 46)) t_31_46
noncomputable def n_31_44 : e_Y := u_ald 0 (u_old (o_ald e_fcs 45) n_31_45) n_31_45
theorem t_31_44 : e_Sn 31 44 (e_un n_31_44) := u_aldT (s_iald hq_31 (by decide +kernel) rfl : e_Sn 31 44 (o_ald e_fcs 45)) t_31_45
noncomputable def n_31_43 : e_Y := u_ld f_okI f_l3 n_31_44
theorem t_31_43 : e_Sn 31 43 (e_un n_31_43) := u_ldIT f_l3_eq (s_iload (i := .iload_n 3) (len := 1) hq_31 (by decide +kernel) rfl (.inr ⟨3, rfl, rfl, rfl⟩) : e_Sn 31 43 (o_load e_okI 3 44)) t_31_44
noncomputable def n_31_40 : e_Y := u_getf 4 2 (u_old (o_getf (e_f1 4 2) 43) n_31_43) n_31_43
theorem t_31_40 : e_Sn 31 40 (e_un n_31_40) := u_getfT (s_getf (C := er_4) (T := et_4) (N := 5) (ref := "Plateroomprinter$Items") (index := 25) (ci := 4) (k := 2) hq_31 ho_31 ⟨rfl, by decide, ei_4, r_m_1_96, .inl rfl⟩ (by decide +kernel) rfl : e_Sn 31 40 (o_getf (e_f1 4 2) 43)) t_31_43
noncomputable def n_31_39 : e_Y := u_ld f_okA f_l1 n_31_40
theorem t_31_39 : e_Sn 31 39 (e_un n_31_39) := u_ldAT f_l1_eq (s_aload (i := .aload_n 1) (len := 1) hq_31 (by decide +kernel) rfl (.inr ⟨1, rfl, rfl, rfl⟩) : e_Sn 31 39 (o_load e_okR 1 40)) t_31_40
noncomputable def n_31_38 : e_Y := u_ald 0 (u_old (o_ald e_fcs 39) n_31_39) n_31_39
theorem t_31_38 : e_Sn 31 38 (e_un n_31_38) := u_aldT (s_iald hq_31 (by decide +kernel) rfl : e_Sn 31 38 (o_ald e_fcs 39)) t_31_39
noncomputable def n_31_37 : e_Y := u_ld f_okI f_l3 n_31_38
theorem t_31_37 : e_Sn 31 37 (e_un n_31_37) := u_ldIT f_l3_eq (s_iload (i := .iload_n 3) (len := 1) hq_31 (by decide +kernel) rfl (.inr ⟨3, rfl, rfl, rfl⟩) : e_Sn 31 37 (o_load e_okI 3 38)) t_31_38
noncomputable def n_31_34 : e_Y := u_getf 4 1 (u_old (o_getf (e_f1 4 1) 37) n_31_37) n_31_37
theorem t_31_34 : e_Sn 31 34 (e_un n_31_34) := u_getfT (s_getf (C := er_4) (T := et_4) (N := 5) (ref := "Plateroomprinter$Items") (index := 21) (ci := 4) (k := 1) hq_31 ho_31 ⟨rfl, by decide, ei_4, r_m_1_95, .inl rfl⟩ (by decide +kernel) rfl : e_Sn 31 34 (o_getf (e_f1 4 1) 37)) t_31_37
noncomputable def n_31_33 : e_Y := u_ld f_okA f_l1 n_31_34
theorem t_31_33 : e_Sn 31 33 (e_un n_31_33) := u_ldAT f_l1_eq (s_aload (i := .aload_n 1) (len := 1) hq_31 (by decide +kernel) rfl (.inr ⟨1, rfl, rfl, rfl⟩) : e_Sn 31 33 (o_load e_okR 1 34)) t_31_34
noncomputable def n_31_32 : e_Y := u_ld f_okI f_l3 n_31_33
theorem t_31_32 : e_Sn 31 32 (e_un n_31_32) := u_ldIT f_l3_eq (s_iload (i := .iload_n 3) (len := 1) hq_31 (by decide +kernel) rfl (.inr ⟨3, rfl, rfl, rfl⟩) : e_Sn 31 32 (o_load e_okI 3 33)) t_31_33
noncomputable def n_31_31 : e_Y := u_ld f_okA f_l0 n_31_32
theorem t_31_31 : e_Sn 31 31 (e_un n_31_31) := u_ldAT f_l0_eq (s_aload (i := .aload_n 0) (len := 1) hq_31 (by decide +kernel) rfl (.inr ⟨0, rfl, rfl, rfl⟩) : e_Sn 31 31 (o_load e_okR 0 32)) t_31_32
noncomputable def n_31_28 : e_Y := u_jmp y_ge (u_old2 (o_clt 31 60) 31 n_31_31 n_31_60) n_31_31 n_31_60
theorem t_31_28 : e_Sn 31 28 (e_un n_31_28) := u_cltT rfl (s_cge (off := (32)) hq_31 (by decide +kernel) rfl rfl : e_Sn 31 28 (o_clt 31 60)) t_31_31 t_31_60
noncomputable def n_31_27 : e_Y := u_ld f_okI f_l2 n_31_28
theorem t_31_27 : e_Sn 31 27 (e_un n_31_27) := u_ldIT f_l2_eq (s_iload (i := .iload_n 2) (len := 1) hq_31 (by decide +kernel) rfl (.inr ⟨2, rfl, rfl, rfl⟩) : e_Sn 31 27 (o_load e_okI 2 28)) t_31_28
noncomputable def n_31_26 : e_Y := u_ld f_okI f_l3 n_31_27
theorem t_31_26 : e_Sn 31 26 (e_un n_31_26) := u_ldIT f_l3_eq (s_iload (i := .iload_n 3) (len := 1) hq_31 (by decide +kernel) rfl (.inr ⟨3, rfl, rfl, rfl⟩) : e_Sn 31 26 (o_load e_okI 3 27)) t_31_27
noncomputable def n_31_25 : e_Y := u_st f_okI f_s3 n_31_26
theorem t_31_25 : e_Sn 31 25 (e_un n_31_25) := u_stIT (fun _ _ _ => f_s3_eq) (s_istore (i := .istore_n 3) (len := 1) hq_31 (by decide +kernel) rfl (.inr ⟨3, rfl, rfl, rfl⟩) : e_Sn 31 25 (o_store e_okI 3 26)) t_31_26
noncomputable def n_31_24 : e_Y := u_push (.inl 2147483648) n_31_25
theorem t_31_24 : e_Sn 31 24 (e_un n_31_24) := u_pushT (s_iconst (n := (0)) hq_31 (by decide +kernel) rfl ⟨by decide +kernel, by decide +kernel⟩ : e_Sn 31 24 (o_push (.inl 2147483648) 25)) t_31_25
noncomputable def n_31_21 : e_Y := u_putf 4 4 f_okI (u_old (o_putf (e_f1 4 4) e_okI 24) n_31_24) n_31_24
theorem t_31_21 : e_Sn 31 21 (e_un n_31_21) := u_putfT (fun _ => f_okI_eq) (s_putf (ty0 := ey_4) (ok := e_okI) (C := er_4) (T := et_4) (N := 5) (ref := "Plateroomprinter$Items") (index := 31) (ci := 4) (k := 4) hq_31 ho_31 ⟨rfl, by decide, ei_4, r_m_1_98, .inl rfl⟩ eo_4 en_4 e_oksI (.inl rfl) (by decide +kernel) rfl : e_Sn 31 21 (o_putf (e_f1 4 4) e_okI 24)) t_31_24
noncomputable def n_31_20 : e_Y := u_ld f_okI f_l2 n_31_21
theorem t_31_20 : e_Sn 31 20 (e_un n_31_20) := u_ldIT f_l2_eq (s_iload (i := .iload_n 2) (len := 1) hq_31 (by decide +kernel) rfl (.inr ⟨2, rfl, rfl, rfl⟩) : e_Sn 31 20 (o_load e_okI 2 21)) t_31_21
noncomputable def n_31_19 : e_Y := u_ld f_okA f_l0 n_31_20
theorem t_31_19 : e_Sn 31 19 (e_un n_31_19) := u_ldAT f_l0_eq (s_aload (i := .aload_n 0) (len := 1) hq_31 (by decide +kernel) rfl (.inr ⟨0, rfl, rfl, rfl⟩) : e_Sn 31 19 (o_load e_okR 0 20)) t_31_20
noncomputable def n_31_18 : e_Y := u_st f_okI f_s2 n_31_19
theorem t_31_18 : e_Sn 31 18 (e_un n_31_18) := u_stIT (fun _ _ _ => f_s2_eq) (s_istore (i := .istore_n 2) (len := 1) hq_31 (by decide +kernel) rfl (.inr ⟨2, rfl, rfl, rfl⟩) : e_Sn 31 18 (o_store e_okI 2 19)) t_31_19
noncomputable def n_31_15 : e_Y := u_tab (o_mmin 18)
theorem t_31_15 : e_Sn 31 15 (e_un n_31_15) := u_tabT (s_mmin (index := 34) hq_31 ho_31 r_m_2_47 r_m_2_48 r_m_1_5 r_m_2_49 (by decide +kernel) rfl : e_Sn 31 15 (o_mmin 18))
noncomputable def n_31_12 : e_Y := u_tab (o_mmin 15)
theorem t_31_12 : e_Sn 31 12 (e_un n_31_12) := u_tabT (s_mmin (index := 34) hq_31 ho_31 r_m_2_47 r_m_2_48 r_m_1_5 r_m_2_49 (by decide +kernel) rfl : e_Sn 31 12 (o_mmin 15))
noncomputable def n_31_9 : e_Y := u_getf 4 0 (u_old (o_getf (e_f1 4 0) 12) n_31_12) n_31_12
theorem t_31_9 : e_Sn 31 9 (e_un n_31_9) := u_getfT (s_getf (C := er_4) (T := et_4) (N := 5) (ref := "Plateroomprinter$Items") (index := 15) (ci := 4) (k := 0) hq_31 ho_31 ⟨rfl, by decide, ei_4, r_m_1_94, .inl rfl⟩ (by decide +kernel) rfl : e_Sn 31 9 (o_getf (e_f1 4 0) 12)) t_31_12
noncomputable def n_31_8 : e_Y := u_ld f_okA f_l1 n_31_9
theorem t_31_8 : e_Sn 31 8 (e_un n_31_8) := u_ldAT f_l1_eq (s_aload (i := .aload_n 1) (len := 1) hq_31 (by decide +kernel) rfl (.inr ⟨1, rfl, rfl, rfl⟩) : e_Sn 31 8 (o_load e_okR 1 9)) t_31_9
noncomputable def n_31_5 : e_Y := u_getf 4 0 (u_old (o_getf (e_f1 4 0) 8) n_31_8) n_31_8
theorem t_31_5 : e_Sn 31 5 (e_un n_31_5) := u_getfT (s_getf (C := er_4) (T := et_4) (N := 5) (ref := "Plateroomprinter$Items") (index := 15) (ci := 4) (k := 0) hq_31 ho_31 ⟨rfl, by decide, ei_4, r_m_1_94, .inl rfl⟩ (by decide +kernel) rfl : e_Sn 31 5 (o_getf (e_f1 4 0) 8)) t_31_8
noncomputable def n_31_4 : e_Y := u_ld f_okA f_l0 n_31_5
theorem t_31_4 : e_Sn 31 4 (e_un n_31_4) := u_ldAT f_l0_eq (s_aload (i := .aload_n 0) (len := 1) hq_31 (by decide +kernel) rfl (.inr ⟨0, rfl, rfl, rfl⟩) : e_Sn 31 4 (o_load e_okR 0 5)) t_31_5
noncomputable def n_31_1 : e_Y := u_getf 4 4 (u_old (o_getf (e_f1 4 4) 4) n_31_4) n_31_4
theorem t_31_1 : e_Sn 31 1 (e_un n_31_1) := u_getfT (s_getf (C := er_4) (T := et_4) (N := 5) (ref := "Plateroomprinter$Items") (index := 31) (ci := 4) (k := 4) hq_31 ho_31 ⟨rfl, by decide, ei_4, r_m_1_98, .inl rfl⟩ (by decide +kernel) rfl : e_Sn 31 1 (o_getf (e_f1 4 4) 4)) t_31_4
noncomputable def n_31_0 : e_Y := u_ld f_okA f_l1 n_31_1
theorem t_31_0 : e_Sn 31 0 (e_un n_31_0) := u_ldAT f_l1_eq (s_aload (i := .aload_n 1) (len := 1) hq_31 (by decide +kernel) rfl (.inr ⟨1, rfl, rfl, rfl⟩) : e_Sn 31 0 (o_load e_okR 1 1)) t_31_1
noncomputable def e_tb_31 : e_X := (e_br 18 (e_br 15 (e_lf 0 (e_un n_31_0)) (e_lf 15 (e_un n_31_15))) (e_br 26 (e_lf 18 (e_un n_31_18)) (e_lf 26 (e_un n_31_26))))
theorem e_tk_31 : e_Tb 31 e_tb_31 := (e_brT (e_brT (e_lfT t_31_0) (e_lfT t_31_15)) (e_brT (e_lfT t_31_18) (e_lfT t_31_26)))
theorem hq_46 : (e_ml[46]?).map (·.2.1) = some prog_8_method_3_code := Eq.trans (congrArg (Option.map (fun e => e.2.1)) hy_46) rfl
theorem ho_46 : (e_ml[46]?).map (·.1.cls) = some "Plateroomprinter$Path" := Eq.trans (congrArg (Option.map (fun e => e.1.cls)) hy_46) rfl
theorem hr_46 : (e_ml[46]?).map (·.2.2.2) = some none := Eq.trans (congrArg (Option.map (fun e => e.2.2.2)) hy_46) rfl
noncomputable def n_46_102 : e_Y := u_retV
theorem t_46_102 : e_Sn 46 102 (e_un n_46_102) := u_retVT (s_vret hq_46 hr_46 (by decide +kernel) : e_Sn 46 102 (o_retv))
noncomputable def n_46_99 : e_Y := u_tab (o_copy0 102)
theorem t_46_99 : e_Sn 46 99 (e_un n_46_99) := u_tabT (s_copy0 (index := 40) hq_46 ho_46 r_m_3_145 r_m_3_147 r_m_3_146 r_m_1_22 (by decide +kernel) rfl : e_Sn 46 99 (o_copy0 102))
noncomputable def n_46_96 : e_Y := u_getf 7 4 (u_old (o_getf (e_f1 7 4) 99) n_46_99) n_46_99
theorem t_46_96 : e_Sn 46 96 (e_un n_46_96) := u_getfT (s_getf (C := er_7) (T := et_7) (N := 6) (ref := "Plateroomprinter$Path") (index := 24) (ci := 7) (k := 4) hq_46 ho_46 ⟨rfl, by decide, ei_7, r_m_1_157, .inl rfl⟩ (by decide +kernel) rfl : e_Sn 46 96 (o_getf (e_f1 7 4) 99)) t_46_99
noncomputable def n_46_95 : e_Y := u_ld f_okA f_l0 n_46_96
theorem t_46_95 : e_Sn 46 95 (e_un n_46_95) := u_ldAT f_l0_eq (s_aload (i := .aload_n 0) (len := 1) hq_46 (by decide +kernel) rfl (.inr ⟨0, rfl, rfl, rfl⟩) : e_Sn 46 95 (o_load e_okR 0 96)) t_46_96
noncomputable def n_46_94 : e_Y := u_push (.inl 2147483648) n_46_95
theorem t_46_94 : e_Sn 46 94 (e_un n_46_94) := u_pushT (s_iconst (n := (0)) hq_46 (by decide +kernel) rfl ⟨by decide +kernel, by decide +kernel⟩ : e_Sn 46 94 (o_push (.inl 2147483648) 95)) t_46_95
noncomputable def n_46_91 : e_Y := u_getf 7 3 (u_old (o_getf (e_f1 7 3) 94) n_46_94) n_46_94
theorem t_46_91 : e_Sn 46 91 (e_un n_46_91) := u_getfT (s_getf (C := er_7) (T := et_7) (N := 6) (ref := "Plateroomprinter$Path") (index := 21) (ci := 7) (k := 3) hq_46 ho_46 ⟨rfl, by decide, ei_7, r_m_1_154, .inl rfl⟩ (by decide +kernel) rfl : e_Sn 46 91 (o_getf (e_f1 7 3) 94)) t_46_94
noncomputable def n_46_90 : e_Y := u_ld f_okA f_l0 n_46_91
theorem t_46_90 : e_Sn 46 90 (e_un n_46_90) := u_ldAT f_l0_eq (s_aload (i := .aload_n 0) (len := 1) hq_46 (by decide +kernel) rfl (.inr ⟨0, rfl, rfl, rfl⟩) : e_Sn 46 90 (o_load e_okR 0 91)) t_46_91
noncomputable def n_46_89 : e_Y := u_push (.inl 2147483648) n_46_90
theorem t_46_89 : e_Sn 46 89 (e_un n_46_89) := u_pushT (s_iconst (n := (0)) hq_46 (by decide +kernel) rfl ⟨by decide +kernel, by decide +kernel⟩ : e_Sn 46 89 (o_push (.inl 2147483648) 90)) t_46_90
noncomputable def n_46_86 : e_Y := u_getf 7 3 (u_old (o_getf (e_f1 7 3) 89) n_46_89) n_46_89
theorem t_46_86 : e_Sn 46 86 (e_un n_46_86) := u_getfT (s_getf (C := er_7) (T := et_7) (N := 6) (ref := "Plateroomprinter$Path") (index := 21) (ci := 7) (k := 3) hq_46 ho_46 ⟨rfl, by decide, ei_7, r_m_1_154, .inl rfl⟩ (by decide +kernel) rfl : e_Sn 46 86 (o_getf (e_f1 7 3) 89)) t_46_89
noncomputable def n_46_85 : e_Y := u_ld f_okA f_l1 n_46_86
theorem t_46_85 : e_Sn 46 85 (e_un n_46_85) := u_ldAT f_l1_eq (s_aload (i := .aload_n 1) (len := 1) hq_46 (by decide +kernel) rfl (.inr ⟨1, rfl, rfl, rfl⟩) : e_Sn 46 85 (o_load e_okR 1 86)) t_46_86
noncomputable def n_46_82 : e_Y := u_tab (o_copy0 85)
theorem t_46_82 : e_Sn 46 82 (e_un n_46_82) := u_tabT (s_copy0 (index := 40) hq_46 ho_46 r_m_3_145 r_m_3_147 r_m_3_146 r_m_1_22 (by decide +kernel) rfl : e_Sn 46 82 (o_copy0 85))
noncomputable def n_46_79 : e_Y := u_getf 7 4 (u_old (o_getf (e_f1 7 4) 82) n_46_82) n_46_82
theorem t_46_79 : e_Sn 46 79 (e_un n_46_79) := u_getfT (s_getf (C := er_7) (T := et_7) (N := 6) (ref := "Plateroomprinter$Path") (index := 24) (ci := 7) (k := 4) hq_46 ho_46 ⟨rfl, by decide, ei_7, r_m_1_157, .inl rfl⟩ (by decide +kernel) rfl : e_Sn 46 79 (o_getf (e_f1 7 4) 82)) t_46_82
noncomputable def n_46_78 : e_Y := u_ld f_okA f_l0 n_46_79
theorem t_46_78 : e_Sn 46 78 (e_un n_46_78) := u_ldAT f_l0_eq (s_aload (i := .aload_n 0) (len := 1) hq_46 (by decide +kernel) rfl (.inr ⟨0, rfl, rfl, rfl⟩) : e_Sn 46 78 (o_load e_okR 0 79)) t_46_79
noncomputable def n_46_77 : e_Y := u_push (.inl 2147483648) n_46_78
theorem t_46_77 : e_Sn 46 77 (e_un n_46_77) := u_pushT (s_iconst (n := (0)) hq_46 (by decide +kernel) rfl ⟨by decide +kernel, by decide +kernel⟩ : e_Sn 46 77 (o_push (.inl 2147483648) 78)) t_46_78
noncomputable def n_46_74 : e_Y := u_getf 7 2 (u_old (o_getf (e_f1 7 2) 77) n_46_77) n_46_77
theorem t_46_74 : e_Sn 46 74 (e_un n_46_74) := u_getfT (s_getf (C := er_7) (T := et_7) (N := 6) (ref := "Plateroomprinter$Path") (index := 18) (ci := 7) (k := 2) hq_46 ho_46 ⟨rfl, by decide, ei_7, r_m_1_153, .inl rfl⟩ (by decide +kernel) rfl : e_Sn 46 74 (o_getf (e_f1 7 2) 77)) t_46_77
noncomputable def n_46_73 : e_Y := u_ld f_okA f_l0 n_46_74
theorem t_46_73 : e_Sn 46 73 (e_un n_46_73) := u_ldAT f_l0_eq (s_aload (i := .aload_n 0) (len := 1) hq_46 (by decide +kernel) rfl (.inr ⟨0, rfl, rfl, rfl⟩) : e_Sn 46 73 (o_load e_okR 0 74)) t_46_74
noncomputable def n_46_72 : e_Y := u_push (.inl 2147483648) n_46_73
theorem t_46_72 : e_Sn 46 72 (e_un n_46_72) := u_pushT (s_iconst (n := (0)) hq_46 (by decide +kernel) rfl ⟨by decide +kernel, by decide +kernel⟩ : e_Sn 46 72 (o_push (.inl 2147483648) 73)) t_46_73
noncomputable def n_46_69 : e_Y := u_getf 7 2 (u_old (o_getf (e_f1 7 2) 72) n_46_72) n_46_72
theorem t_46_69 : e_Sn 46 69 (e_un n_46_69) := u_getfT (s_getf (C := er_7) (T := et_7) (N := 6) (ref := "Plateroomprinter$Path") (index := 18) (ci := 7) (k := 2) hq_46 ho_46 ⟨rfl, by decide, ei_7, r_m_1_153, .inl rfl⟩ (by decide +kernel) rfl : e_Sn 46 69 (o_getf (e_f1 7 2) 72)) t_46_72
noncomputable def n_46_68 : e_Y := u_ld f_okA f_l1 n_46_69
theorem t_46_68 : e_Sn 46 68 (e_un n_46_68) := u_ldAT f_l1_eq (s_aload (i := .aload_n 1) (len := 1) hq_46 (by decide +kernel) rfl (.inr ⟨1, rfl, rfl, rfl⟩) : e_Sn 46 68 (o_load e_okR 1 69)) t_46_69
noncomputable def n_46_65 : e_Y := u_tab (o_copy0 68)
theorem t_46_65 : e_Sn 46 65 (e_un n_46_65) := u_tabT (s_copy0 (index := 40) hq_46 ho_46 r_m_3_145 r_m_3_147 r_m_3_146 r_m_1_22 (by decide +kernel) rfl : e_Sn 46 65 (o_copy0 68))
noncomputable def n_46_62 : e_Y := u_getf 7 5 (u_old (o_getf (e_f1 7 5) 65) n_46_65) n_46_65
theorem t_46_62 : e_Sn 46 62 (e_un n_46_62) := u_getfT (s_getf (C := er_7) (T := et_7) (N := 6) (ref := "Plateroomprinter$Path") (index := 28) (ci := 7) (k := 5) hq_46 ho_46 ⟨rfl, by decide, ei_7, r_m_1_162, .inl rfl⟩ (by decide +kernel) rfl : e_Sn 46 62 (o_getf (e_f1 7 5) 65)) t_46_65
noncomputable def n_46_61 : e_Y := u_ld f_okA f_l0 n_46_62
theorem t_46_61 : e_Sn 46 61 (e_un n_46_61) := u_ldAT f_l0_eq (s_aload (i := .aload_n 0) (len := 1) hq_46 (by decide +kernel) rfl (.inr ⟨0, rfl, rfl, rfl⟩) : e_Sn 46 61 (o_load e_okR 0 62)) t_46_62
noncomputable def n_46_60 : e_Y := u_push (.inl 2147483648) n_46_61
theorem t_46_60 : e_Sn 46 60 (e_un n_46_60) := u_pushT (s_iconst (n := (0)) hq_46 (by decide +kernel) rfl ⟨by decide +kernel, by decide +kernel⟩ : e_Sn 46 60 (o_push (.inl 2147483648) 61)) t_46_61
noncomputable def n_46_57 : e_Y := u_getf 7 1 (u_old (o_getf (e_f1 7 1) 60) n_46_60) n_46_60
theorem t_46_57 : e_Sn 46 57 (e_un n_46_57) := u_getfT (s_getf (C := er_7) (T := et_7) (N := 6) (ref := "Plateroomprinter$Path") (index := 15) (ci := 7) (k := 1) hq_46 ho_46 ⟨rfl, by decide, ei_7, r_m_1_151, .inl rfl⟩ (by decide +kernel) rfl : e_Sn 46 57 (o_getf (e_f1 7 1) 60)) t_46_60
noncomputable def n_46_56 : e_Y := u_ld f_okA f_l0 n_46_57
theorem t_46_56 : e_Sn 46 56 (e_un n_46_56) := u_ldAT f_l0_eq (s_aload (i := .aload_n 0) (len := 1) hq_46 (by decide +kernel) rfl (.inr ⟨0, rfl, rfl, rfl⟩) : e_Sn 46 56 (o_load e_okR 0 57)) t_46_57
noncomputable def n_46_55 : e_Y := u_push (.inl 2147483648) n_46_56
theorem t_46_55 : e_Sn 46 55 (e_un n_46_55) := u_pushT (s_iconst (n := (0)) hq_46 (by decide +kernel) rfl ⟨by decide +kernel, by decide +kernel⟩ : e_Sn 46 55 (o_push (.inl 2147483648) 56)) t_46_56
noncomputable def n_46_52 : e_Y := u_getf 7 1 (u_old (o_getf (e_f1 7 1) 55) n_46_55) n_46_55
theorem t_46_52 : e_Sn 46 52 (e_un n_46_52) := u_getfT (s_getf (C := er_7) (T := et_7) (N := 6) (ref := "Plateroomprinter$Path") (index := 15) (ci := 7) (k := 1) hq_46 ho_46 ⟨rfl, by decide, ei_7, r_m_1_151, .inl rfl⟩ (by decide +kernel) rfl : e_Sn 46 52 (o_getf (e_f1 7 1) 55)) t_46_55
noncomputable def n_46_51 : e_Y := u_ld f_okA f_l1 n_46_52
theorem t_46_51 : e_Sn 46 51 (e_un n_46_51) := u_ldAT f_l1_eq (s_aload (i := .aload_n 1) (len := 1) hq_46 (by decide +kernel) rfl (.inr ⟨1, rfl, rfl, rfl⟩) : e_Sn 46 51 (o_load e_okR 1 52)) t_46_52
noncomputable def n_46_48 : e_Y := u_tab (o_copy0 51)
theorem t_46_48 : e_Sn 46 48 (e_un n_46_48) := u_tabT (s_copy0 (index := 40) hq_46 ho_46 r_m_3_145 r_m_3_147 r_m_3_146 r_m_1_22 (by decide +kernel) rfl : e_Sn 46 48 (o_copy0 51))
noncomputable def n_46_45 : e_Y := u_getf 7 5 (u_old (o_getf (e_f1 7 5) 48) n_46_48) n_46_48
theorem t_46_45 : e_Sn 46 45 (e_un n_46_45) := u_getfT (s_getf (C := er_7) (T := et_7) (N := 6) (ref := "Plateroomprinter$Path") (index := 28) (ci := 7) (k := 5) hq_46 ho_46 ⟨rfl, by decide, ei_7, r_m_1_162, .inl rfl⟩ (by decide +kernel) rfl : e_Sn 46 45 (o_getf (e_f1 7 5) 48)) t_46_48
noncomputable def n_46_44 : e_Y := u_ld f_okA f_l0 n_46_45
theorem t_46_44 : e_Sn 46 44 (e_un n_46_44) := u_ldAT f_l0_eq (s_aload (i := .aload_n 0) (len := 1) hq_46 (by decide +kernel) rfl (.inr ⟨0, rfl, rfl, rfl⟩) : e_Sn 46 44 (o_load e_okR 0 45)) t_46_45
noncomputable def n_46_43 : e_Y := u_push (.inl 2147483648) n_46_44
theorem t_46_43 : e_Sn 46 43 (e_un n_46_43) := u_pushT (s_iconst (n := (0)) hq_46 (by decide +kernel) rfl ⟨by decide +kernel, by decide +kernel⟩ : e_Sn 46 43 (o_push (.inl 2147483648) 44)) t_46_44
noncomputable def n_46_40 : e_Y := u_getf 7 0 (u_old (o_getf (e_f1 7 0) 43) n_46_43) n_46_43
theorem t_46_40 : e_Sn 46 40 (e_un n_46_40) := u_getfT (s_getf (C := er_7) (T := et_7) (N := 6) (ref := "Plateroomprinter$Path") (index := 9) (ci := 7) (k := 0) hq_46 ho_46 ⟨rfl, by decide, ei_7, r_m_1_149, .inl rfl⟩ (by decide +kernel) rfl : e_Sn 46 40 (o_getf (e_f1 7 0) 43)) t_46_43
noncomputable def n_46_39 : e_Y := u_ld f_okA f_l0 n_46_40
theorem t_46_39 : e_Sn 46 39 (e_un n_46_39) := u_ldAT f_l0_eq (s_aload (i := .aload_n 0) (len := 1) hq_46 (by decide +kernel) rfl (.inr ⟨0, rfl, rfl, rfl⟩) : e_Sn 46 39 (o_load e_okR 0 40)) t_46_40
noncomputable def n_46_38 : e_Y := u_push (.inl 2147483648) n_46_39
theorem t_46_38 : e_Sn 46 38 (e_un n_46_38) := u_pushT (s_iconst (n := (0)) hq_46 (by decide +kernel) rfl ⟨by decide +kernel, by decide +kernel⟩ : e_Sn 46 38 (o_push (.inl 2147483648) 39)) t_46_39
noncomputable def n_46_35 : e_Y := u_getf 7 0 (u_old (o_getf (e_f1 7 0) 38) n_46_38) n_46_38
theorem t_46_35 : e_Sn 46 35 (e_un n_46_35) := u_getfT (s_getf (C := er_7) (T := et_7) (N := 6) (ref := "Plateroomprinter$Path") (index := 9) (ci := 7) (k := 0) hq_46 ho_46 ⟨rfl, by decide, ei_7, r_m_1_149, .inl rfl⟩ (by decide +kernel) rfl : e_Sn 46 35 (o_getf (e_f1 7 0) 38)) t_46_38
noncomputable def n_46_34 : e_Y := u_ld f_okA f_l1 n_46_35
theorem t_46_34 : e_Sn 46 34 (e_un n_46_34) := u_ldAT f_l1_eq (s_aload (i := .aload_n 1) (len := 1) hq_46 (by decide +kernel) rfl (.inr ⟨1, rfl, rfl, rfl⟩) : e_Sn 46 34 (o_load e_okR 1 35)) t_46_35
noncomputable def n_46_31 : e_Y := u_putf 7 5 f_okI (u_old (o_putf (e_f1 7 5) e_okI 34) n_46_34) n_46_34
theorem t_46_31 : e_Sn 46 31 (e_un n_46_31) := u_putfT (fun _ => f_okI_eq) (s_putf (ty0 := ey_7) (ok := e_okI) (C := er_7) (T := et_7) (N := 6) (ref := "Plateroomprinter$Path") (index := 28) (ci := 7) (k := 5) hq_46 ho_46 ⟨rfl, by decide, ei_7, r_m_1_162, .inl rfl⟩ eo_7 en_7 e_oksI (.inl rfl) (by decide +kernel) rfl : e_Sn 46 31 (o_putf (e_f1 7 5) e_okI 34)) t_46_34
noncomputable def n_46_28 : e_Y := u_tab (o_mmax 31)
theorem t_46_28 : e_Sn 46 28 (e_un n_46_28) := u_tabT (s_mmax (index := 37) hq_46 ho_46 r_m_3_144 r_m_1_92 r_m_1_5 r_m_1_93 (by decide +kernel) rfl : e_Sn 46 28 (o_mmax 31))
noncomputable def n_46_25 : e_Y := u_tab (o_mmin 28)
theorem t_46_25 : e_Sn 46 25 (e_un n_46_25) := u_tabT (s_mmin (index := 31) hq_46 ho_46 r_m_3_143 r_m_2_48 r_m_1_5 r_m_2_49 (by decide +kernel) rfl : e_Sn 46 25 (o_mmin 28))
noncomputable def n_46_23 : e_Y := u_push (.inl 2147483768) n_46_25
theorem t_46_23 : e_Sn 46 23 (e_un n_46_23) := u_pushT (s_bipush (n := (120)) hq_46 (by decide +kernel) rfl ⟨by decide +kernel, by decide +kernel⟩ : e_Sn 46 23 (o_push (.inl 2147483768) 25)) t_46_25
noncomputable def n_46_20 : e_Y := u_getf 7 5 (u_old (o_getf (e_f1 7 5) 23) n_46_23) n_46_23
theorem t_46_20 : e_Sn 46 20 (e_un n_46_20) := u_getfT (s_getf (C := er_7) (T := et_7) (N := 6) (ref := "Plateroomprinter$Path") (index := 28) (ci := 7) (k := 5) hq_46 ho_46 ⟨rfl, by decide, ei_7, r_m_1_162, .inl rfl⟩ (by decide +kernel) rfl : e_Sn 46 20 (o_getf (e_f1 7 5) 23)) t_46_23
noncomputable def n_46_19 : e_Y := u_ld f_okA f_l1 n_46_20
theorem t_46_19 : e_Sn 46 19 (e_un n_46_19) := u_ldAT f_l1_eq (s_aload (i := .aload_n 1) (len := 1) hq_46 (by decide +kernel) rfl (.inr ⟨1, rfl, rfl, rfl⟩) : e_Sn 46 19 (o_load e_okR 1 20)) t_46_20
noncomputable def n_46_18 : e_Y := u_push (.inl 2147483648) n_46_19
theorem t_46_18 : e_Sn 46 18 (e_un n_46_18) := u_pushT (s_iconst (n := (0)) hq_46 (by decide +kernel) rfl ⟨by decide +kernel, by decide +kernel⟩ : e_Sn 46 18 (o_push (.inl 2147483648) 19)) t_46_19
noncomputable def n_46_17 : e_Y := u_ld f_okA f_l0 n_46_18
theorem t_46_17 : e_Sn 46 17 (e_un n_46_17) := u_ldAT f_l0_eq (s_aload (i := .aload_n 0) (len := 1) hq_46 (by decide +kernel) rfl (.inr ⟨0, rfl, rfl, rfl⟩) : e_Sn 46 17 (o_load e_okR 0 18)) t_46_18
noncomputable def n_46_14 : e_Y := u_putf 7 4 f_okI (u_old (o_putf (e_f1 7 4) e_okI 17) n_46_17) n_46_17
theorem t_46_14 : e_Sn 46 14 (e_un n_46_14) := u_putfT (fun _ => f_okI_eq) (s_putf (ty0 := ey_7) (ok := e_okI) (C := er_7) (T := et_7) (N := 6) (ref := "Plateroomprinter$Path") (index := 24) (ci := 7) (k := 4) hq_46 ho_46 ⟨rfl, by decide, ei_7, r_m_1_157, .inl rfl⟩ eo_7 en_7 e_oksI (.inl rfl) (by decide +kernel) rfl : e_Sn 46 14 (o_putf (e_f1 7 4) e_okI 17)) t_46_17
noncomputable def n_46_11 : e_Y := u_tab (o_mmax 14)
theorem t_46_11 : e_Sn 46 11 (e_un n_46_11) := u_tabT (s_mmax (index := 37) hq_46 ho_46 r_m_3_144 r_m_1_92 r_m_1_5 r_m_1_93 (by decide +kernel) rfl : e_Sn 46 11 (o_mmax 14))
noncomputable def n_46_8 : e_Y := u_tab (o_mmin 11)
theorem t_46_8 : e_Sn 46 8 (e_un n_46_8) := u_tabT (s_mmin (index := 31) hq_46 ho_46 r_m_3_143 r_m_2_48 r_m_1_5 r_m_2_49 (by decide +kernel) rfl : e_Sn 46 8 (o_mmin 11))
noncomputable def n_46_6 : e_Y := u_push (.inl 2147483768) n_46_8
theorem t_46_6 : e_Sn 46 6 (e_un n_46_6) := u_pushT (s_bipush (n := (120)) hq_46 (by decide +kernel) rfl ⟨by decide +kernel, by decide +kernel⟩ : e_Sn 46 6 (o_push (.inl 2147483768) 8)) t_46_8
noncomputable def n_46_3 : e_Y := u_getf 7 4 (u_old (o_getf (e_f1 7 4) 6) n_46_6) n_46_6
theorem t_46_3 : e_Sn 46 3 (e_un n_46_3) := u_getfT (s_getf (C := er_7) (T := et_7) (N := 6) (ref := "Plateroomprinter$Path") (index := 24) (ci := 7) (k := 4) hq_46 ho_46 ⟨rfl, by decide, ei_7, r_m_1_157, .inl rfl⟩ (by decide +kernel) rfl : e_Sn 46 3 (o_getf (e_f1 7 4) 6)) t_46_6
noncomputable def n_46_2 : e_Y := u_ld f_okA f_l1 n_46_3
theorem t_46_2 : e_Sn 46 2 (e_un n_46_2) := u_ldAT f_l1_eq (s_aload (i := .aload_n 1) (len := 1) hq_46 (by decide +kernel) rfl (.inr ⟨1, rfl, rfl, rfl⟩) : e_Sn 46 2 (o_load e_okR 1 3)) t_46_3
noncomputable def n_46_1 : e_Y := u_push (.inl 2147483648) n_46_2
theorem t_46_1 : e_Sn 46 1 (e_un n_46_1) := u_pushT (s_iconst (n := (0)) hq_46 (by decide +kernel) rfl ⟨by decide +kernel, by decide +kernel⟩ : e_Sn 46 1 (o_push (.inl 2147483648) 2)) t_46_2
noncomputable def n_46_0 : e_Y := u_ld f_okA f_l0 n_46_1
theorem t_46_0 : e_Sn 46 0 (e_un n_46_0) := u_ldAT f_l0_eq (s_aload (i := .aload_n 0) (len := 1) hq_46 (by decide +kernel) rfl (.inr ⟨0, rfl, rfl, rfl⟩) : e_Sn 46 0 (o_load e_okR 0 1)) t_46_1
noncomputable def e_tb_46 : e_X := (e_br 31 (e_br 14 (e_br 11 (e_lf 0 (e_un n_46_0)) (e_lf 11 (e_un n_46_11))) (e_br 28 (e_lf 14 (e_un n_46_14)) (e_lf 28 (e_un n_46_28)))) (e_br 68 (e_br 51 (e_lf 31 (e_un n_46_31)) (e_lf 51 (e_un n_46_51))) (e_br 85 (e_lf 68 (e_un n_46_68)) (e_br 102 (e_lf 85 (e_un n_46_85)) (e_lf 102 (e_un n_46_102))))))
theorem e_tk_46 : e_Tb 46 e_tb_46 := (e_brT (e_brT (e_brT (e_lfT t_46_0) (e_lfT t_46_11)) (e_brT (e_lfT t_46_14) (e_lfT t_46_28))) (e_brT (e_brT (e_lfT t_46_31) (e_lfT t_46_51)) (e_brT (e_lfT t_46_68) (e_brT (e_lfT t_46_85) (e_lfT t_46_102)))))
theorem hq_39 : (e_ml[39]?).map (·.2.1) = some prog_6_method_3_code := Eq.trans (congrArg (Option.map (fun e => e.2.1)) hy_39) rfl
theorem ho_39 : (e_ml[39]?).map (·.1.cls) = some "Plateroomprinter$Matrix" := Eq.trans (congrArg (Option.map (fun e => e.1.cls)) hy_39) rfl
theorem hr_39 : (e_ml[39]?).map (·.2.2.2) = some none := Eq.trans (congrArg (Option.map (fun e => e.2.2.2)) hy_39) rfl
noncomputable def n_39_38 : e_Y := u_retV
theorem t_39_38 : e_Sn 39 38 (e_un n_39_38) := u_retVT (s_vret hq_39 hr_39 (by decide +kernel) : e_Sn 39 38 (o_retv))
noncomputable def n_39_35 : e_Y := (u_at 2)
theorem t_39_35 : e_Sn 39 35 (e_un n_39_35) := u_gotoT (s_goto (off := (-33)) hq_39 (by decide +kernel) rfl : e_Sn 39 35 (o_goto 2)) u_atT
noncomputable def n_39_32 : e_Y := u_inc f_l2 f_s2 1 n_39_35
theorem t_39_32 : e_Sn 39 32 (e_un n_39_32) := u_incT f_l2_eq (fun _ _ _ => f_s2_eq) (s_iinc (zz := (1)) hq_39 (by decide +kernel) rfl (by decide +kernel) ⟨by decide, by decide⟩ : e_Sn 39 32 (o_iinc 2 1 35)) t_39_35
noncomputable def n_39_31 : e_Y := u_old (o_ast 2 e_okL 32) n_39_32
theorem t_39_31 : e_Sn 39 31 (e_un n_39_31) := u_oldT (s_last hq_39 (by decide +kernel) rfl : e_Sn 39 31 (o_ast 2 e_okL 32)) t_39_32 (e_cg_ast 2 e_okL)
noncomputable def n_39_30 : e_Y := u_ald 2 (u_old (o_aldO 2 31) n_39_31) n_39_31
theorem t_39_30 : e_Sn 39 30 (e_un n_39_30) := u_aldOT (s_lald hq_39 (by decide +kernel) rfl : e_Sn 39 30 (o_aldO 2 31)) t_39_31
noncomputable def n_39_29 : e_Y := u_ld f_okI f_l2 n_39_30
theorem t_39_29 : e_Sn 39 29 (e_un n_39_29) := u_ldIT f_l2_eq (s_iload (i := .iload_n 2) (len := 1) hq_39 (by decide +kernel) rfl (.inr ⟨2, rfl, rfl, rfl⟩) : e_Sn 39 29 (o_load e_okI 2 30)) t_39_30
noncomputable def n_39_26 : e_Y := u_getf 5 1 (u_old (o_getf (e_f1 5 1) 29) n_39_29) n_39_29
theorem t_39_26 : e_Sn 39 26 (e_un n_39_26) := u_getfT (s_getf (C := er_5) (T := et_5) (N := 5) (ref := "Plateroomprinter$Matrix") (index := 15) (ci := 5) (k := 1) hq_39 ho_39 ⟨rfl, by decide, ei_5, r_m_1_126, .inl rfl⟩ (by decide +kernel) rfl : e_Sn 39 26 (o_getf (e_f1 5 1) 29)) t_39_29
noncomputable def n_39_25 : e_Y := u_ld f_okA f_l1 n_39_26
theorem t_39_25 : e_Sn 39 25 (e_un n_39_25) := u_ldAT f_l1_eq (s_aload (i := .aload_n 1) (len := 1) hq_39 (by decide +kernel) rfl (.inr ⟨1, rfl, rfl, rfl⟩) : e_Sn 39 25 (o_load e_okR 1 26)) t_39_26
noncomputable def n_39_24 : e_Y := u_ld f_okI f_l2 n_39_25
theorem t_39_24 : e_Sn 39 24 (e_un n_39_24) := u_ldIT f_l2_eq (s_iload (i := .iload_n 2) (len := 1) hq_39 (by decide +kernel) rfl (.inr ⟨2, rfl, rfl, rfl⟩) : e_Sn 39 24 (o_load e_okI 2 25)) t_39_25
noncomputable def n_39_21 : e_Y := u_getf 5 1 (u_old (o_getf (e_f1 5 1) 24) n_39_24) n_39_24
theorem t_39_21 : e_Sn 39 21 (e_un n_39_21) := u_getfT (s_getf (C := er_5) (T := et_5) (N := 5) (ref := "Plateroomprinter$Matrix") (index := 15) (ci := 5) (k := 1) hq_39 ho_39 ⟨rfl, by decide, ei_5, r_m_1_126, .inl rfl⟩ (by decide +kernel) rfl : e_Sn 39 21 (o_getf (e_f1 5 1) 24)) t_39_24
noncomputable def n_39_20 : e_Y := u_ld f_okA f_l0 n_39_21
theorem t_39_20 : e_Sn 39 20 (e_un n_39_20) := u_ldAT f_l0_eq (s_aload (i := .aload_n 0) (len := 1) hq_39 (by decide +kernel) rfl (.inr ⟨0, rfl, rfl, rfl⟩) : e_Sn 39 20 (o_load e_okR 0 21)) t_39_21
noncomputable def n_39_19 : e_Y := u_old (o_ast 2 e_okL 20) n_39_20
theorem t_39_19 : e_Sn 39 19 (e_un n_39_19) := u_oldT (s_last hq_39 (by decide +kernel) rfl : e_Sn 39 19 (o_ast 2 e_okL 20)) t_39_20 (e_cg_ast 2 e_okL)
noncomputable def n_39_18 : e_Y := u_ald 2 (u_old (o_aldO 2 19) n_39_19) n_39_19
theorem t_39_18 : e_Sn 39 18 (e_un n_39_18) := u_aldOT (s_lald hq_39 (by decide +kernel) rfl : e_Sn 39 18 (o_aldO 2 19)) t_39_19
noncomputable def n_39_17 : e_Y := u_ld f_okI f_l2 n_39_18
theorem t_39_17 : e_Sn 39 17 (e_un n_39_17) := u_ldIT f_l2_eq (s_iload (i := .iload_n 2) (len := 1) hq_39 (by decide +kernel) rfl (.inr ⟨2, rfl, rfl, rfl⟩) : e_Sn 39 17 (o_load e_okI 2 18)) t_39_18
noncomputable def n_39_14 : e_Y := u_getf 5 0 (u_old (o_getf (e_f1 5 0) 17) n_39_17) n_39_17
theorem t_39_14 : e_Sn 39 14 (e_un n_39_14) := u_getfT (s_getf (C := er_5) (T := et_5) (N := 5) (ref := "Plateroomprinter$Matrix") (index := 9) (ci := 5) (k := 0) hq_39 ho_39 ⟨rfl, by decide, ei_5, r_m_1_124, .inl rfl⟩ (by decide +kernel) rfl : e_Sn 39 14 (o_getf (e_f1 5 0) 17)) t_39_17
noncomputable def n_39_13 : e_Y := u_ld f_okA f_l1 n_39_14
theorem t_39_13 : e_Sn 39 13 (e_un n_39_13) := u_ldAT f_l1_eq (s_aload (i := .aload_n 1) (len := 1) hq_39 (by decide +kernel) rfl (.inr ⟨1, rfl, rfl, rfl⟩) : e_Sn 39 13 (o_load e_okR 1 14)) t_39_14
noncomputable def n_39_12 : e_Y := u_ld f_okI f_l2 n_39_13
theorem t_39_12 : e_Sn 39 12 (e_un n_39_12) := u_ldIT f_l2_eq (s_iload (i := .iload_n 2) (len := 1) hq_39 (by decide +kernel) rfl (.inr ⟨2, rfl, rfl, rfl⟩) : e_Sn 39 12 (o_load e_okI 2 13)) t_39_13
noncomputable def n_39_9 : e_Y := u_getf 5 0 (u_old (o_getf (e_f1 5 0) 12) n_39_12) n_39_12
theorem t_39_9 : e_Sn 39 9 (e_un n_39_9) := u_getfT (s_getf (C := er_5) (T := et_5) (N := 5) (ref := "Plateroomprinter$Matrix") (index := 9) (ci := 5) (k := 0) hq_39 ho_39 ⟨rfl, by decide, ei_5, r_m_1_124, .inl rfl⟩ (by decide +kernel) rfl : e_Sn 39 9 (o_getf (e_f1 5 0) 12)) t_39_12
noncomputable def n_39_8 : e_Y := u_ld f_okA f_l0 n_39_9
theorem t_39_8 : e_Sn 39 8 (e_un n_39_8) := u_ldAT f_l0_eq (s_aload (i := .aload_n 0) (len := 1) hq_39 (by decide +kernel) rfl (.inr ⟨0, rfl, rfl, rfl⟩) : e_Sn 39 8 (o_load e_okR 0 9)) t_39_9
noncomputable def n_39_5 : e_Y := u_jmp y_ge (u_old2 (o_clt 8 38) 8 n_39_8 n_39_38) n_39_8 n_39_38
theorem t_39_5 : e_Sn 39 5 (e_un n_39_5) := u_cltT rfl (s_cge (off := (33)) hq_39 (by decide +kernel) rfl rfl : e_Sn 39 5 (o_clt 8 38)) t_39_8 t_39_38
noncomputable def n_39_3 : e_Y := u_push (.inl 2147483654) n_39_5
theorem t_39_3 : e_Sn 39 3 (e_un n_39_3) := u_pushT (s_bipush (n := (6)) hq_39 (by decide +kernel) rfl ⟨by decide +kernel, by decide +kernel⟩ : e_Sn 39 3 (o_push (.inl 2147483654) 5)) t_39_5
noncomputable def n_39_2 : e_Y := u_ld f_okI f_l2 n_39_3
theorem t_39_2 : e_Sn 39 2 (e_un n_39_2) := u_ldIT f_l2_eq (s_iload (i := .iload_n 2) (len := 1) hq_39 (by decide +kernel) rfl (.inr ⟨2, rfl, rfl, rfl⟩) : e_Sn 39 2 (o_load e_okI 2 3)) t_39_3
noncomputable def n_39_1 : e_Y := u_st f_okI f_s2 n_39_2
theorem t_39_1 : e_Sn 39 1 (e_un n_39_1) := u_stIT (fun _ _ _ => f_s2_eq) (s_istore (i := .istore_n 2) (len := 1) hq_39 (by decide +kernel) rfl (.inr ⟨2, rfl, rfl, rfl⟩) : e_Sn 39 1 (o_store e_okI 2 2)) t_39_2
noncomputable def n_39_0 : e_Y := u_push (.inl 2147483648) n_39_1
theorem t_39_0 : e_Sn 39 0 (e_un n_39_0) := u_pushT (s_iconst (n := (0)) hq_39 (by decide +kernel) rfl ⟨by decide +kernel, by decide +kernel⟩ : e_Sn 39 0 (o_push (.inl 2147483648) 1)) t_39_1
noncomputable def e_tb_39 : e_X := (e_br 2 (e_lf 0 (e_un n_39_0)) (e_lf 2 (e_un n_39_2)))
theorem e_tk_39 : e_Tb 39 e_tb_39 := (e_brT (e_lfT t_39_0) (e_lfT t_39_2))
theorem hq_53 : (e_ml[53]?).map (·.2.1) = some prog_11_method_3_code := Eq.trans (congrArg (Option.map (fun e => e.2.1)) hy_53) rfl
theorem ho_53 : (e_ml[53]?).map (·.1.cls) = some "Plateroomprinter$State" := Eq.trans (congrArg (Option.map (fun e => e.1.cls)) hy_53) rfl
theorem hr_53 : (e_ml[53]?).map (·.2.2.2) = some none := Eq.trans (congrArg (Option.map (fun e => e.2.2.2)) hy_53) rfl
noncomputable def n_53_129 : e_Y := u_retV
theorem t_53_129 : e_Sn 53 129 (e_un n_53_129) := u_retVT (s_vret hq_53 hr_53 (by decide +kernel) : e_Sn 53 129 (o_retv))
noncomputable def n_53_126 : e_Y := u_putf 10 10 f_okI (u_old (o_putf (e_f1 10 10) e_okI 129) n_53_129) n_53_129
theorem t_53_126 : e_Sn 53 126 (e_un n_53_126) := u_putfT (fun _ => f_okI_eq) (s_putf (ty0 := ey_10) (ok := e_okI) (C := er_10) (T := et_10) (N := 11) (ref := "Plateroomprinter$State") (index := 51) (ci := 10) (k := 10) hq_53 ho_53 ⟨rfl, by decide, ei_10, r_m_1_209, .inl rfl⟩ eo_10 en_10 e_oksI (.inl rfl) (by decide +kernel) rfl : e_Sn 53 126 (o_putf (e_f1 10 10) e_okI 129)) t_53_129
noncomputable def n_53_123 : e_Y := u_getf 10 10 (u_old (o_getf (e_f1 10 10) 126) n_53_126) n_53_126
theorem t_53_123 : e_Sn 53 123 (e_un n_53_123) := u_getfT (s_getf (C := er_10) (T := et_10) (N := 11) (ref := "Plateroomprinter$State") (index := 51) (ci := 10) (k := 10) hq_53 ho_53 ⟨rfl, by decide, ei_10, r_m_1_209, .inl rfl⟩ (by decide +kernel) rfl : e_Sn 53 123 (o_getf (e_f1 10 10) 126)) t_53_126
noncomputable def n_53_122 : e_Y := u_ld f_okA f_l1 n_53_123
theorem t_53_122 : e_Sn 53 122 (e_un n_53_122) := u_ldAT f_l1_eq (s_aload (i := .aload_n 1) (len := 1) hq_53 (by decide +kernel) rfl (.inr ⟨1, rfl, rfl, rfl⟩) : e_Sn 53 122 (o_load e_okR 1 123)) t_53_123
noncomputable def n_53_121 : e_Y := u_ld f_okA f_l0 n_53_122
theorem t_53_121 : e_Sn 53 121 (e_un n_53_121) := u_ldAT f_l0_eq (s_aload (i := .aload_n 0) (len := 1) hq_53 (by decide +kernel) rfl (.inr ⟨0, rfl, rfl, rfl⟩) : e_Sn 53 121 (o_load e_okR 0 122)) t_53_122
noncomputable def n_53_118 : e_Y := u_putf 10 9 f_okI (u_old (o_putf (e_f1 10 9) e_okI 121) n_53_121) n_53_121
theorem t_53_118 : e_Sn 53 118 (e_un n_53_118) := u_putfT (fun _ => f_okI_eq) (s_putf (ty0 := ey_10) (ok := e_okI) (C := er_10) (T := et_10) (N := 11) (ref := "Plateroomprinter$State") (index := 48) (ci := 10) (k := 9) hq_53 ho_53 ⟨rfl, by decide, ei_10, r_m_1_206, .inl rfl⟩ eo_10 en_10 e_oksI (.inl rfl) (by decide +kernel) rfl : e_Sn 53 118 (o_putf (e_f1 10 9) e_okI 121)) t_53_121
noncomputable def n_53_115 : e_Y := u_getf 10 9 (u_old (o_getf (e_f1 10 9) 118) n_53_118) n_53_118
theorem t_53_115 : e_Sn 53 115 (e_un n_53_115) := u_getfT (s_getf (C := er_10) (T := et_10) (N := 11) (ref := "Plateroomprinter$State") (index := 48) (ci := 10) (k := 9) hq_53 ho_53 ⟨rfl, by decide, ei_10, r_m_1_206, .inl rfl⟩ (by decide +kernel) rfl : e_Sn 53 115 (o_getf (e_f1 10 9) 118)) t_53_118
noncomputable def n_53_114 : e_Y := u_ld f_okA f_l1 n_53_115
theorem t_53_114 : e_Sn 53 114 (e_un n_53_114) := u_ldAT f_l1_eq (s_aload (i := .aload_n 1) (len := 1) hq_53 (by decide +kernel) rfl (.inr ⟨1, rfl, rfl, rfl⟩) : e_Sn 53 114 (o_load e_okR 1 115)) t_53_115
noncomputable def n_53_113 : e_Y := u_ld f_okA f_l0 n_53_114
theorem t_53_113 : e_Sn 53 113 (e_un n_53_113) := u_ldAT f_l0_eq (s_aload (i := .aload_n 0) (len := 1) hq_53 (by decide +kernel) rfl (.inr ⟨0, rfl, rfl, rfl⟩) : e_Sn 53 113 (o_load e_okR 0 114)) t_53_114
noncomputable def n_53_110 : e_Y := u_putf 10 8 f_okI (u_old (o_putf (e_f1 10 8) e_okI 113) n_53_113) n_53_113
theorem t_53_110 : e_Sn 53 110 (e_un n_53_110) := u_putfT (fun _ => f_okI_eq) (s_putf (ty0 := ey_10) (ok := e_okI) (C := er_10) (T := et_10) (N := 11) (ref := "Plateroomprinter$State") (index := 45) (ci := 10) (k := 8) hq_53 ho_53 ⟨rfl, by decide, ei_10, r_m_1_203, .inl rfl⟩ eo_10 en_10 e_oksI (.inl rfl) (by decide +kernel) rfl : e_Sn 53 110 (o_putf (e_f1 10 8) e_okI 113)) t_53_113
noncomputable def n_53_107 : e_Y := u_getf 10 8 (u_old (o_getf (e_f1 10 8) 110) n_53_110) n_53_110
theorem t_53_107 : e_Sn 53 107 (e_un n_53_107) := u_getfT (s_getf (C := er_10) (T := et_10) (N := 11) (ref := "Plateroomprinter$State") (index := 45) (ci := 10) (k := 8) hq_53 ho_53 ⟨rfl, by decide, ei_10, r_m_1_203, .inl rfl⟩ (by decide +kernel) rfl : e_Sn 53 107 (o_getf (e_f1 10 8) 110)) t_53_110
noncomputable def n_53_106 : e_Y := u_ld f_okA f_l1 n_53_107
theorem t_53_106 : e_Sn 53 106 (e_un n_53_106) := u_ldAT f_l1_eq (s_aload (i := .aload_n 1) (len := 1) hq_53 (by decide +kernel) rfl (.inr ⟨1, rfl, rfl, rfl⟩) : e_Sn 53 106 (o_load e_okR 1 107)) t_53_107
noncomputable def n_53_105 : e_Y := u_ld f_okA f_l0 n_53_106
theorem t_53_105 : e_Sn 53 105 (e_un n_53_105) := u_ldAT f_l0_eq (s_aload (i := .aload_n 0) (len := 1) hq_53 (by decide +kernel) rfl (.inr ⟨0, rfl, rfl, rfl⟩) : e_Sn 53 105 (o_load e_okR 0 106)) t_53_106
noncomputable def n_53_102 : e_Y := u_putf 10 7 f_okI (u_old (o_putf (e_f1 10 7) e_okI 105) n_53_105) n_53_105
theorem t_53_102 : e_Sn 53 102 (e_un n_53_102) := u_putfT (fun _ => f_okI_eq) (s_putf (ty0 := ey_10) (ok := e_okI) (C := er_10) (T := et_10) (N := 11) (ref := "Plateroomprinter$State") (index := 41) (ci := 10) (k := 7) hq_53 ho_53 ⟨rfl, by decide, ei_10, r_m_1_200, .inl rfl⟩ eo_10 en_10 e_oksI (.inl rfl) (by decide +kernel) rfl : e_Sn 53 102 (o_putf (e_f1 10 7) e_okI 105)) t_53_105
noncomputable def n_53_99 : e_Y := u_getf 10 7 (u_old (o_getf (e_f1 10 7) 102) n_53_102) n_53_102
theorem t_53_99 : e_Sn 53 99 (e_un n_53_99) := u_getfT (s_getf (C := er_10) (T := et_10) (N := 11) (ref := "Plateroomprinter$State") (index := 41) (ci := 10) (k := 7) hq_53 ho_53 ⟨rfl, by decide, ei_10, r_m_1_200, .inl rfl⟩ (by decide +kernel) rfl : e_Sn 53 99 (o_getf (e_f1 10 7) 102)) t_53_102
noncomputable def n_53_98 : e_Y := u_ld f_okA f_l1 n_53_99
theorem t_53_98 : e_Sn 53 98 (e_un n_53_98) := u_ldAT f_l1_eq (s_aload (i := .aload_n 1) (len := 1) hq_53 (by decide +kernel) rfl (.inr ⟨1, rfl, rfl, rfl⟩) : e_Sn 53 98 (o_load e_okR 1 99)) t_53_99
noncomputable def n_53_97 : e_Y := u_ld f_okA f_l0 n_53_98
theorem t_53_97 : e_Sn 53 97 (e_un n_53_97) := u_ldAT f_l0_eq (s_aload (i := .aload_n 0) (len := 1) hq_53 (by decide +kernel) rfl (.inr ⟨0, rfl, rfl, rfl⟩) : e_Sn 53 97 (o_load e_okR 0 98)) t_53_98
noncomputable def n_53_94 : e_Y := u_putf 10 6 f_okI (u_old (o_putf (e_f1 10 6) e_okI 97) n_53_97) n_53_97
theorem t_53_94 : e_Sn 53 94 (e_un n_53_94) := u_putfT (fun _ => f_okI_eq) (s_putf (ty0 := ey_10) (ok := e_okI) (C := er_10) (T := et_10) (N := 11) (ref := "Plateroomprinter$State") (index := 68) (ci := 10) (k := 6) hq_53 ho_53 ⟨rfl, by decide, ei_10, r_m_1_197, .inl rfl⟩ eo_10 en_10 e_oksI (.inl rfl) (by decide +kernel) rfl : e_Sn 53 94 (o_putf (e_f1 10 6) e_okI 97)) t_53_97
noncomputable def n_53_91 : e_Y := u_getf 10 6 (u_old (o_getf (e_f1 10 6) 94) n_53_94) n_53_94
theorem t_53_91 : e_Sn 53 91 (e_un n_53_91) := u_getfT (s_getf (C := er_10) (T := et_10) (N := 11) (ref := "Plateroomprinter$State") (index := 68) (ci := 10) (k := 6) hq_53 ho_53 ⟨rfl, by decide, ei_10, r_m_1_197, .inl rfl⟩ (by decide +kernel) rfl : e_Sn 53 91 (o_getf (e_f1 10 6) 94)) t_53_94
noncomputable def n_53_90 : e_Y := u_ld f_okA f_l1 n_53_91
theorem t_53_90 : e_Sn 53 90 (e_un n_53_90) := u_ldAT f_l1_eq (s_aload (i := .aload_n 1) (len := 1) hq_53 (by decide +kernel) rfl (.inr ⟨1, rfl, rfl, rfl⟩) : e_Sn 53 90 (o_load e_okR 1 91)) t_53_91
noncomputable def n_53_89 : e_Y := u_ld f_okA f_l0 n_53_90
theorem t_53_89 : e_Sn 53 89 (e_un n_53_89) := u_ldAT f_l0_eq (s_aload (i := .aload_n 0) (len := 1) hq_53 (by decide +kernel) rfl (.inr ⟨0, rfl, rfl, rfl⟩) : e_Sn 53 89 (o_load e_okR 0 90)) t_53_90
noncomputable def n_53_86 : e_Y := u_putf 10 5 f_okI (u_old (o_putf (e_f1 10 5) e_okI 89) n_53_89) n_53_89
theorem t_53_86 : e_Sn 53 86 (e_un n_53_86) := u_putfT (fun _ => f_okI_eq) (s_putf (ty0 := ey_10) (ok := e_okI) (C := er_10) (T := et_10) (N := 11) (ref := "Plateroomprinter$State") (index := 65) (ci := 10) (k := 5) hq_53 ho_53 ⟨rfl, by decide, ei_10, r_m_1_194, .inl rfl⟩ eo_10 en_10 e_oksI (.inl rfl) (by decide +kernel) rfl : e_Sn 53 86 (o_putf (e_f1 10 5) e_okI 89)) t_53_89
noncomputable def n_53_83 : e_Y := u_getf 10 5 (u_old (o_getf (e_f1 10 5) 86) n_53_86) n_53_86
theorem t_53_83 : e_Sn 53 83 (e_un n_53_83) := u_getfT (s_getf (C := er_10) (T := et_10) (N := 11) (ref := "Plateroomprinter$State") (index := 65) (ci := 10) (k := 5) hq_53 ho_53 ⟨rfl, by decide, ei_10, r_m_1_194, .inl rfl⟩ (by decide +kernel) rfl : e_Sn 53 83 (o_getf (e_f1 10 5) 86)) t_53_86
noncomputable def n_53_82 : e_Y := u_ld f_okA f_l1 n_53_83
theorem t_53_82 : e_Sn 53 82 (e_un n_53_82) := u_ldAT f_l1_eq (s_aload (i := .aload_n 1) (len := 1) hq_53 (by decide +kernel) rfl (.inr ⟨1, rfl, rfl, rfl⟩) : e_Sn 53 82 (o_load e_okR 1 83)) t_53_83
noncomputable def n_53_81 : e_Y := u_ld f_okA f_l0 n_53_82
theorem t_53_81 : e_Sn 53 81 (e_un n_53_81) := u_ldAT f_l0_eq (s_aload (i := .aload_n 0) (len := 1) hq_53 (by decide +kernel) rfl (.inr ⟨0, rfl, rfl, rfl⟩) : e_Sn 53 81 (o_load e_okR 0 82)) t_53_82
noncomputable def n_53_78 : e_Y := u_old (o_putf (e_f1 10 4) e_okZ 81) n_53_81
theorem t_53_78 : e_Sn 53 78 (e_un n_53_78) := u_oldT (s_putf (ty0 := ey_10) (ok := e_okZ) (C := er_10) (T := et_10) (N := 11) (ref := "Plateroomprinter$State") (index := 61) (ci := 10) (k := 4) hq_53 ho_53 ⟨rfl, by decide, ei_10, r_m_1_191, .inl rfl⟩ eo_10 en_10 e_oksZ (.inl rfl) (by decide +kernel) rfl : e_Sn 53 78 (o_putf (e_f1 10 4) e_okZ 81)) t_53_81 (e_cg_putf (e_f1 10 4) e_okZ)
noncomputable def n_53_75 : e_Y := u_getf 10 4 (u_old (o_getf (e_f1 10 4) 78) n_53_78) n_53_78
theorem t_53_75 : e_Sn 53 75 (e_un n_53_75) := u_getfT (s_getf (C := er_10) (T := et_10) (N := 11) (ref := "Plateroomprinter$State") (index := 61) (ci := 10) (k := 4) hq_53 ho_53 ⟨rfl, by decide, ei_10, r_m_1_191, .inl rfl⟩ (by decide +kernel) rfl : e_Sn 53 75 (o_getf (e_f1 10 4) 78)) t_53_78
noncomputable def n_53_74 : e_Y := u_ld f_okA f_l1 n_53_75
theorem t_53_74 : e_Sn 53 74 (e_un n_53_74) := u_ldAT f_l1_eq (s_aload (i := .aload_n 1) (len := 1) hq_53 (by decide +kernel) rfl (.inr ⟨1, rfl, rfl, rfl⟩) : e_Sn 53 74 (o_load e_okR 1 75)) t_53_75
noncomputable def n_53_73 : e_Y := u_ld f_okA f_l0 n_53_74
theorem t_53_73 : e_Sn 53 73 (e_un n_53_73) := u_ldAT f_l0_eq (s_aload (i := .aload_n 0) (len := 1) hq_53 (by decide +kernel) rfl (.inr ⟨0, rfl, rfl, rfl⟩) : e_Sn 53 73 (o_load e_okR 0 74)) t_53_74
noncomputable def n_53_70 : e_Y := (u_at 50)
theorem t_53_70 : e_Sn 53 70 (e_un n_53_70) := u_gotoT (s_goto (off := (-20)) hq_53 (by decide +kernel) rfl : e_Sn 53 70 (o_goto 50)) u_atT
noncomputable def n_53_67 : e_Y := u_inc f_l2 f_s2 1 n_53_70
theorem t_53_67 : e_Sn 53 67 (e_un n_53_67) := u_incT f_l2_eq (fun _ _ _ => f_s2_eq) (s_iinc (zz := (1)) hq_53 (by decide +kernel) rfl (by decide +kernel) ⟨by decide, by decide⟩ : e_Sn 53 67 (o_iinc 2 1 70)) t_53_70
noncomputable def n_53_66 : e_Y := u_ast 0 f_okI (u_old (o_ast 0 e_okI 67) n_53_67) n_53_67
theorem t_53_66 : e_Sn 53 66 (e_un n_53_66) := u_astT (fun _ => f_okI_eq) (s_iast hq_53 (by decide +kernel) rfl : e_Sn 53 66 (o_ast 0 e_okI 67)) t_53_67
noncomputable def n_53_65 : e_Y := u_ald 0 (u_old (o_ald e_fcs 66) n_53_66) n_53_66
theorem t_53_65 : e_Sn 53 65 (e_un n_53_65) := u_aldT (s_iald hq_53 (by decide +kernel) rfl : e_Sn 53 65 (o_ald e_fcs 66)) t_53_66
noncomputable def n_53_64 : e_Y := u_ld f_okI f_l2 n_53_65
theorem t_53_64 : e_Sn 53 64 (e_un n_53_64) := u_ldIT f_l2_eq (s_iload (i := .iload_n 2) (len := 1) hq_53 (by decide +kernel) rfl (.inr ⟨2, rfl, rfl, rfl⟩) : e_Sn 53 64 (o_load e_okI 2 65)) t_53_65
noncomputable def n_53_61 : e_Y := u_getf 10 3 (u_old (o_getf (e_f1 10 3) 64) n_53_64) n_53_64
theorem t_53_61 : e_Sn 53 61 (e_un n_53_61) := u_getfT (s_getf (C := er_10) (T := et_10) (N := 11) (ref := "Plateroomprinter$State") (index := 29) (ci := 10) (k := 3) hq_53 ho_53 ⟨rfl, by decide, ei_10, r_m_1_188, .inl rfl⟩ (by decide +kernel) rfl : e_Sn 53 61 (o_getf (e_f1 10 3) 64)) t_53_64
noncomputable def n_53_60 : e_Y := u_ld f_okA f_l1 n_53_61
theorem t_53_60 : e_Sn 53 60 (e_un n_53_60) := u_ldAT f_l1_eq (s_aload (i := .aload_n 1) (len := 1) hq_53 (by decide +kernel) rfl (.inr ⟨1, rfl, rfl, rfl⟩) : e_Sn 53 60 (o_load e_okR 1 61)) t_53_61
noncomputable def n_53_59 : e_Y := u_ld f_okI f_l2 n_53_60
theorem t_53_59 : e_Sn 53 59 (e_un n_53_59) := u_ldIT f_l2_eq (s_iload (i := .iload_n 2) (len := 1) hq_53 (by decide +kernel) rfl (.inr ⟨2, rfl, rfl, rfl⟩) : e_Sn 53 59 (o_load e_okI 2 60)) t_53_60
noncomputable def n_53_56 : e_Y := u_getf 10 3 (u_old (o_getf (e_f1 10 3) 59) n_53_59) n_53_59
theorem t_53_56 : e_Sn 53 56 (e_un n_53_56) := u_getfT (s_getf (C := er_10) (T := et_10) (N := 11) (ref := "Plateroomprinter$State") (index := 29) (ci := 10) (k := 3) hq_53 ho_53 ⟨rfl, by decide, ei_10, r_m_1_188, .inl rfl⟩ (by decide +kernel) rfl : e_Sn 53 56 (o_getf (e_f1 10 3) 59)) t_53_59
noncomputable def n_53_55 : e_Y := u_ld f_okA f_l0 n_53_56
theorem t_53_55 : e_Sn 53 55 (e_un n_53_55) := u_ldAT f_l0_eq (s_aload (i := .aload_n 0) (len := 1) hq_53 (by decide +kernel) rfl (.inr ⟨0, rfl, rfl, rfl⟩) : e_Sn 53 55 (o_load e_okR 0 56)) t_53_56
noncomputable def n_53_52 : e_Y := u_jmp y_ge (u_old2 (o_clt 55 73) 55 n_53_55 n_53_73) n_53_55 n_53_73
theorem t_53_52 : e_Sn 53 52 (e_un n_53_52) := u_cltT rfl (s_cge (off := (21)) hq_53 (by decide +kernel) rfl rfl : e_Sn 53 52 (o_clt 55 73)) t_53_55 t_53_73
noncomputable def n_53_51 : e_Y := u_push (.inl 2147483652) n_53_52
theorem t_53_51 : e_Sn 53 51 (e_un n_53_51) := u_pushT (s_iconst (n := (4)) hq_53 (by decide +kernel) rfl ⟨by decide +kernel, by decide +kernel⟩ : e_Sn 53 51 (o_push (.inl 2147483652) 52)) t_53_52
noncomputable def n_53_50 : e_Y := u_ld f_okI f_l2 n_53_51
theorem t_53_50 : e_Sn 53 50 (e_un n_53_50) := u_ldIT f_l2_eq (s_iload (i := .iload_n 2) (len := 1) hq_53 (by decide +kernel) rfl (.inr ⟨2, rfl, rfl, rfl⟩) : e_Sn 53 50 (o_load e_okI 2 51)) t_53_51
noncomputable def n_53_49 : e_Y := u_st f_okI f_s2 n_53_50
theorem t_53_49 : e_Sn 53 49 (e_un n_53_49) := u_stIT (fun _ _ _ => f_s2_eq) (s_istore (i := .istore_n 2) (len := 1) hq_53 (by decide +kernel) rfl (.inr ⟨2, rfl, rfl, rfl⟩) : e_Sn 53 49 (o_store e_okI 2 50)) t_53_50
noncomputable def n_53_48 : e_Y := u_push (.inl 2147483648) n_53_49
theorem t_53_48 : e_Sn 53 48 (e_un n_53_48) := u_pushT (s_iconst (n := (0)) hq_53 (by decide +kernel) rfl ⟨by decide +kernel, by decide +kernel⟩ : e_Sn 53 48 (o_push (.inl 2147483648) 49)) t_53_49
noncomputable def n_53_45 : e_Y := (u_at 24)
theorem t_53_45 : e_Sn 53 45 (e_un n_53_45) := u_gotoT (s_goto (off := (-21)) hq_53 (by decide +kernel) rfl : e_Sn 53 45 (o_goto 24)) u_atT
noncomputable def n_53_42 : e_Y := u_inc f_l2 f_s2 1 n_53_45
theorem t_53_42 : e_Sn 53 42 (e_un n_53_42) := u_incT f_l2_eq (fun _ _ _ => f_s2_eq) (s_iinc (zz := (1)) hq_53 (by decide +kernel) rfl (by decide +kernel) ⟨by decide, by decide⟩ : e_Sn 53 42 (o_iinc 2 1 45)) t_53_45
noncomputable def n_53_41 : e_Y := u_ast 0 f_okI (u_old (o_ast 0 e_okI 42) n_53_42) n_53_42
theorem t_53_41 : e_Sn 53 41 (e_un n_53_41) := u_astT (fun _ => f_okI_eq) (s_iast hq_53 (by decide +kernel) rfl : e_Sn 53 41 (o_ast 0 e_okI 42)) t_53_42
noncomputable def n_53_40 : e_Y := u_ald 0 (u_old (o_ald e_fcs 41) n_53_41) n_53_41
theorem t_53_40 : e_Sn 53 40 (e_un n_53_40) := u_aldT (s_iald hq_53 (by decide +kernel) rfl : e_Sn 53 40 (o_ald e_fcs 41)) t_53_41
noncomputable def n_53_39 : e_Y := u_ld f_okI f_l2 n_53_40
theorem t_53_39 : e_Sn 53 39 (e_un n_53_39) := u_ldIT f_l2_eq (s_iload (i := .iload_n 2) (len := 1) hq_53 (by decide +kernel) rfl (.inr ⟨2, rfl, rfl, rfl⟩) : e_Sn 53 39 (o_load e_okI 2 40)) t_53_40
noncomputable def n_53_36 : e_Y := u_getf 10 2 (u_old (o_getf (e_f1 10 2) 39) n_53_39) n_53_39
theorem t_53_36 : e_Sn 53 36 (e_un n_53_36) := u_getfT (s_getf (C := er_10) (T := et_10) (N := 11) (ref := "Plateroomprinter$State") (index := 25) (ci := 10) (k := 2) hq_53 ho_53 ⟨rfl, by decide, ei_10, r_m_1_185, .inl rfl⟩ (by decide +kernel) rfl : e_Sn 53 36 (o_getf (e_f1 10 2) 39)) t_53_39
noncomputable def n_53_35 : e_Y := u_ld f_okA f_l1 n_53_36
theorem t_53_35 : e_Sn 53 35 (e_un n_53_35) := u_ldAT f_l1_eq (s_aload (i := .aload_n 1) (len := 1) hq_53 (by decide +kernel) rfl (.inr ⟨1, rfl, rfl, rfl⟩) : e_Sn 53 35 (o_load e_okR 1 36)) t_53_36
noncomputable def n_53_34 : e_Y := u_ld f_okI f_l2 n_53_35
theorem t_53_34 : e_Sn 53 34 (e_un n_53_34) := u_ldIT f_l2_eq (s_iload (i := .iload_n 2) (len := 1) hq_53 (by decide +kernel) rfl (.inr ⟨2, rfl, rfl, rfl⟩) : e_Sn 53 34 (o_load e_okI 2 35)) t_53_35
noncomputable def n_53_31 : e_Y := u_getf 10 2 (u_old (o_getf (e_f1 10 2) 34) n_53_34) n_53_34
theorem t_53_31 : e_Sn 53 31 (e_un n_53_31) := u_getfT (s_getf (C := er_10) (T := et_10) (N := 11) (ref := "Plateroomprinter$State") (index := 25) (ci := 10) (k := 2) hq_53 ho_53 ⟨rfl, by decide, ei_10, r_m_1_185, .inl rfl⟩ (by decide +kernel) rfl : e_Sn 53 31 (o_getf (e_f1 10 2) 34)) t_53_34
noncomputable def n_53_30 : e_Y := u_ld f_okA f_l0 n_53_31
theorem t_53_30 : e_Sn 53 30 (e_un n_53_30) := u_ldAT f_l0_eq (s_aload (i := .aload_n 0) (len := 1) hq_53 (by decide +kernel) rfl (.inr ⟨0, rfl, rfl, rfl⟩) : e_Sn 53 30 (o_load e_okR 0 31)) t_53_31
noncomputable def n_53_27 : e_Y := u_jmp y_ge (u_old2 (o_clt 30 48) 30 n_53_30 n_53_48) n_53_30 n_53_48
theorem t_53_27 : e_Sn 53 27 (e_un n_53_27) := u_cltT rfl (s_cge (off := (21)) hq_53 (by decide +kernel) rfl rfl : e_Sn 53 27 (o_clt 30 48)) t_53_30 t_53_48
noncomputable def n_53_25 : e_Y := u_push (.inl 2147483680) n_53_27
theorem t_53_25 : e_Sn 53 25 (e_un n_53_25) := u_pushT (s_bipush (n := (32)) hq_53 (by decide +kernel) rfl ⟨by decide +kernel, by decide +kernel⟩ : e_Sn 53 25 (o_push (.inl 2147483680) 27)) t_53_27
noncomputable def n_53_24 : e_Y := u_ld f_okI f_l2 n_53_25
theorem t_53_24 : e_Sn 53 24 (e_un n_53_24) := u_ldIT f_l2_eq (s_iload (i := .iload_n 2) (len := 1) hq_53 (by decide +kernel) rfl (.inr ⟨2, rfl, rfl, rfl⟩) : e_Sn 53 24 (o_load e_okI 2 25)) t_53_25
noncomputable def n_53_23 : e_Y := u_st f_okI f_s2 n_53_24
theorem t_53_23 : e_Sn 53 23 (e_un n_53_23) := u_stIT (fun _ _ _ => f_s2_eq) (s_istore (i := .istore_n 2) (len := 1) hq_53 (by decide +kernel) rfl (.inr ⟨2, rfl, rfl, rfl⟩) : e_Sn 53 23 (o_store e_okI 2 24)) t_53_24
noncomputable def n_53_22 : e_Y := u_push (.inl 2147483648) n_53_23
theorem t_53_22 : e_Sn 53 22 (e_un n_53_22) := u_pushT (s_iconst (n := (0)) hq_53 (by decide +kernel) rfl ⟨by decide +kernel, by decide +kernel⟩ : e_Sn 53 22 (o_push (.inl 2147483648) 23)) t_53_23
noncomputable def n_53_19 : e_Y := u_callV 7 46 2 21 2 n_46_0 n_53_22
theorem t_53_19 : e_Sn 53 19 (e_un n_53_19) := u_callVT rfl (s_callV (ci := 7) (C := er_7) (T := et_7) (N := 6) (index := 58) hq_53 ho_53 hy_46 hp_46 hc_46 hi_46 hd_46 (r_k3 (List.mem_of_getElem? (i := 139) (by decide +kernel))) hs_46 r_m_3_141 rfl (by decide +kernel) rfl : e_Sn 53 19 (o_callV (e_s1 7 46 2) 2 22)) t_46_0 t_53_22
noncomputable def n_53_16 : e_Y := u_getf 10 1 (u_old (o_getf (e_f1 10 1) 19) n_53_19) n_53_19
theorem t_53_16 : e_Sn 53 16 (e_un n_53_16) := u_getfT (s_getf (C := er_10) (T := et_10) (N := 11) (ref := "Plateroomprinter$State") (index := 21) (ci := 10) (k := 1) hq_53 ho_53 ⟨rfl, by decide, ei_10, r_m_1_182, .inl rfl⟩ (by decide +kernel) rfl : e_Sn 53 16 (o_getf (e_f1 10 1) 19)) t_53_19
noncomputable def n_53_15 : e_Y := u_ld f_okA f_l1 n_53_16
theorem t_53_15 : e_Sn 53 15 (e_un n_53_15) := u_ldAT f_l1_eq (s_aload (i := .aload_n 1) (len := 1) hq_53 (by decide +kernel) rfl (.inr ⟨1, rfl, rfl, rfl⟩) : e_Sn 53 15 (o_load e_okR 1 16)) t_53_16
noncomputable def n_53_12 : e_Y := u_getf 10 1 (u_old (o_getf (e_f1 10 1) 15) n_53_15) n_53_15
theorem t_53_12 : e_Sn 53 12 (e_un n_53_12) := u_getfT (s_getf (C := er_10) (T := et_10) (N := 11) (ref := "Plateroomprinter$State") (index := 21) (ci := 10) (k := 1) hq_53 ho_53 ⟨rfl, by decide, ei_10, r_m_1_182, .inl rfl⟩ (by decide +kernel) rfl : e_Sn 53 12 (o_getf (e_f1 10 1) 15)) t_53_15
noncomputable def n_53_11 : e_Y := u_ld f_okA f_l0 n_53_12
theorem t_53_11 : e_Sn 53 11 (e_un n_53_11) := u_ldAT f_l0_eq (s_aload (i := .aload_n 0) (len := 1) hq_53 (by decide +kernel) rfl (.inr ⟨0, rfl, rfl, rfl⟩) : e_Sn 53 11 (o_load e_okR 0 12)) t_53_12
noncomputable def n_53_8 : e_Y := u_callV 5 39 3 22 2 n_39_0 n_53_11
theorem t_53_8 : e_Sn 53 8 (e_un n_53_8) := u_callVT rfl (s_callV (ci := 5) (C := er_5) (T := et_5) (N := 5) (index := 54) hq_53 ho_53 hy_39 hp_39 hc_39 hi_39 hd_39 (r_k3 (List.mem_of_getElem? (i := 135) (by decide +kernel))) hs_39 (r_k3 (List.mem_of_getElem? (i := 137) (by decide +kernel))) rfl (by decide +kernel) rfl : e_Sn 53 8 (o_callV (e_s1 5 39 3) 2 11)) t_39_0 t_53_11
noncomputable def n_53_5 : e_Y := u_getf 10 0 (u_old (o_getf (e_f1 10 0) 8) n_53_8) n_53_8
theorem t_53_5 : e_Sn 53 5 (e_un n_53_5) := u_getfT (s_getf (C := er_10) (T := et_10) (N := 11) (ref := "Plateroomprinter$State") (index := 12) (ci := 10) (k := 0) hq_53 ho_53 ⟨rfl, by decide, ei_10, r_m_1_179, .inl rfl⟩ (by decide +kernel) rfl : e_Sn 53 5 (o_getf (e_f1 10 0) 8)) t_53_8
noncomputable def n_53_4 : e_Y := u_ld f_okA f_l1 n_53_5
theorem t_53_4 : e_Sn 53 4 (e_un n_53_4) := u_ldAT f_l1_eq (s_aload (i := .aload_n 1) (len := 1) hq_53 (by decide +kernel) rfl (.inr ⟨1, rfl, rfl, rfl⟩) : e_Sn 53 4 (o_load e_okR 1 5)) t_53_5
noncomputable def n_53_1 : e_Y := u_getf 10 0 (u_old (o_getf (e_f1 10 0) 4) n_53_4) n_53_4
theorem t_53_1 : e_Sn 53 1 (e_un n_53_1) := u_getfT (s_getf (C := er_10) (T := et_10) (N := 11) (ref := "Plateroomprinter$State") (index := 12) (ci := 10) (k := 0) hq_53 ho_53 ⟨rfl, by decide, ei_10, r_m_1_179, .inl rfl⟩ (by decide +kernel) rfl : e_Sn 53 1 (o_getf (e_f1 10 0) 4)) t_53_4
noncomputable def n_53_0 : e_Y := u_ld f_okA f_l0 n_53_1
theorem t_53_0 : e_Sn 53 0 (e_un n_53_0) := u_ldAT f_l0_eq (s_aload (i := .aload_n 0) (len := 1) hq_53 (by decide +kernel) rfl (.inr ⟨0, rfl, rfl, rfl⟩) : e_Sn 53 0 (o_load e_okR 0 1)) t_53_1
noncomputable def e_tb_53 : e_X := (e_br 24 (e_lf 0 (e_un n_53_0)) (e_br 50 (e_lf 24 (e_un n_53_24)) (e_lf 50 (e_un n_53_50))))
theorem e_tk_53 : e_Tb 53 e_tb_53 := (e_brT (e_lfT t_53_0) (e_brT (e_lfT t_53_24) (e_lfT t_53_50)))
theorem hq_58 : (e_ml[58]?).map (·.2.1) = some prog_12_method_3_code := Eq.trans (congrArg (Option.map (fun e => e.2.1)) hy_58) rfl
theorem ho_58 : (e_ml[58]?).map (·.1.cls) = some "Plateroomprinter$World" := Eq.trans (congrArg (Option.map (fun e => e.1.cls)) hy_58) rfl
theorem hr_58 : (e_ml[58]?).map (·.2.2.2) = some none := Eq.trans (congrArg (Option.map (fun e => e.2.2.2)) hy_58) rfl
noncomputable def n_58_208 : e_Y := u_retV
theorem t_58_208 : e_Sn 58 208 (e_un n_58_208) := u_retVT (s_vret hq_58 hr_58 (by decide +kernel) : e_Sn 58 208 (o_retv))
noncomputable def n_58_205 : e_Y := u_putf 11 14 f_okI (u_old (o_putf (e_f1 11 14) e_okI 208) n_58_208) n_58_208
theorem t_58_205 : e_Sn 58 205 (e_un n_58_205) := u_putfT (fun _ => f_okI_eq) (s_putf (ty0 := ey_11) (ok := e_okI) (C := er_11) (T := et_11) (N := 15) (ref := "Plateroomprinter$World") (index := 89) (ci := 11) (k := 14) hq_58 ho_58 ⟨rfl, by decide, ei_11, r_m_2_123, .inl rfl⟩ eo_11 en_11 e_oksI (.inl rfl) (by decide +kernel) rfl : e_Sn 58 205 (o_putf (e_f1 11 14) e_okI 208)) t_58_208
noncomputable def n_58_202 : e_Y := u_getf 11 14 (u_old (o_getf (e_f1 11 14) 205) n_58_205) n_58_205
theorem t_58_202 : e_Sn 58 202 (e_un n_58_202) := u_getfT (s_getf (C := er_11) (T := et_11) (N := 15) (ref := "Plateroomprinter$World") (index := 89) (ci := 11) (k := 14) hq_58 ho_58 ⟨rfl, by decide, ei_11, r_m_2_123, .inl rfl⟩ (by decide +kernel) rfl : e_Sn 58 202 (o_getf (e_f1 11 14) 205)) t_58_205
noncomputable def n_58_201 : e_Y := u_ld f_okA f_l1 n_58_202
theorem t_58_201 : e_Sn 58 201 (e_un n_58_201) := u_ldAT f_l1_eq (s_aload (i := .aload_n 1) (len := 1) hq_58 (by decide +kernel) rfl (.inr ⟨1, rfl, rfl, rfl⟩) : e_Sn 58 201 (o_load e_okR 1 202)) t_58_202
noncomputable def n_58_200 : e_Y := u_ld f_okA f_l0 n_58_201
theorem t_58_200 : e_Sn 58 200 (e_un n_58_200) := u_ldAT f_l0_eq (s_aload (i := .aload_n 0) (len := 1) hq_58 (by decide +kernel) rfl (.inr ⟨0, rfl, rfl, rfl⟩) : e_Sn 58 200 (o_load e_okR 0 201)) t_58_201
noncomputable def n_58_197 : e_Y := u_putf 11 13 f_okI (u_old (o_putf (e_f1 11 13) e_okI 200) n_58_200) n_58_200
theorem t_58_197 : e_Sn 58 197 (e_un n_58_197) := u_putfT (fun _ => f_okI_eq) (s_putf (ty0 := ey_11) (ok := e_okI) (C := er_11) (T := et_11) (N := 15) (ref := "Plateroomprinter$World") (index := 86) (ci := 11) (k := 13) hq_58 ho_58 ⟨rfl, by decide, ei_11, r_m_2_120, .inl rfl⟩ eo_11 en_11 e_oksI (.inl rfl) (by decide +kernel) rfl : e_Sn 58 197 (o_putf (e_f1 11 13) e_okI 200)) t_58_200
noncomputable def n_58_194 : e_Y := u_getf 11 13 (u_old (o_getf (e_f1 11 13) 197) n_58_197) n_58_197
theorem t_58_194 : e_Sn 58 194 (e_un n_58_194) := u_getfT (s_getf (C := er_11) (T := et_11) (N := 15) (ref := "Plateroomprinter$World") (index := 86) (ci := 11) (k := 13) hq_58 ho_58 ⟨rfl, by decide, ei_11, r_m_2_120, .inl rfl⟩ (by decide +kernel) rfl : e_Sn 58 194 (o_getf (e_f1 11 13) 197)) t_58_197
noncomputable def n_58_193 : e_Y := u_ld f_okA f_l1 n_58_194
theorem t_58_193 : e_Sn 58 193 (e_un n_58_193) := u_ldAT f_l1_eq (s_aload (i := .aload_n 1) (len := 1) hq_58 (by decide +kernel) rfl (.inr ⟨1, rfl, rfl, rfl⟩) : e_Sn 58 193 (o_load e_okR 1 194)) t_58_194
noncomputable def n_58_192 : e_Y := u_ld f_okA f_l0 n_58_193
theorem t_58_192 : e_Sn 58 192 (e_un n_58_192) := u_ldAT f_l0_eq (s_aload (i := .aload_n 0) (len := 1) hq_58 (by decide +kernel) rfl (.inr ⟨0, rfl, rfl, rfl⟩) : e_Sn 58 192 (o_load e_okR 0 193)) t_58_193
noncomputable def n_58_189 : e_Y := u_putf 11 12 f_okI (u_old (o_putf (e_f1 11 12) e_okI 192) n_58_192) n_58_192
theorem t_58_189 : e_Sn 58 189 (e_un n_58_189) := u_putfT (fun _ => f_okI_eq) (s_putf (ty0 := ey_11) (ok := e_okI) (C := er_11) (T := et_11) (N := 15) (ref := "Plateroomprinter$World") (index := 83) (ci := 11) (k := 12) hq_58 ho_58 ⟨rfl, by decide, ei_11, r_m_2_117, .inl rfl⟩ eo_11 en_11 e_oksI (.inl rfl) (by decide +kernel) rfl : e_Sn 58 189 (o_putf (e_f1 11 12) e_okI 192)) t_58_192
noncomputable def n_58_186 : e_Y := u_getf 11 12 (u_old (o_getf (e_f1 11 12) 189) n_58_189) n_58_189
theorem t_58_186 : e_Sn 58 186 (e_un n_58_186) := u_getfT (s_getf (C := er_11) (T := et_11) (N := 15) (ref := "Plateroomprinter$World") (index := 83) (ci := 11) (k := 12) hq_58 ho_58 ⟨rfl, by decide, ei_11, r_m_2_117, .inl rfl⟩ (by decide +kernel) rfl : e_Sn 58 186 (o_getf (e_f1 11 12) 189)) t_58_189
noncomputable def n_58_185 : e_Y := u_ld f_okA f_l1 n_58_186
theorem t_58_185 : e_Sn 58 185 (e_un n_58_185) := u_ldAT f_l1_eq (s_aload (i := .aload_n 1) (len := 1) hq_58 (by decide +kernel) rfl (.inr ⟨1, rfl, rfl, rfl⟩) : e_Sn 58 185 (o_load e_okR 1 186)) t_58_186
noncomputable def n_58_184 : e_Y := u_ld f_okA f_l0 n_58_185
theorem t_58_184 : e_Sn 58 184 (e_un n_58_184) := u_ldAT f_l0_eq (s_aload (i := .aload_n 0) (len := 1) hq_58 (by decide +kernel) rfl (.inr ⟨0, rfl, rfl, rfl⟩) : e_Sn 58 184 (o_load e_okR 0 185)) t_58_185
noncomputable def n_58_181 : e_Y := (u_at 160)
theorem t_58_181 : e_Sn 58 181 (e_un n_58_181) := u_gotoT (s_goto (off := (-21)) hq_58 (by decide +kernel) rfl : e_Sn 58 181 (o_goto 160)) u_atT
noncomputable def n_58_178 : e_Y := u_inc f_l2 f_s2 1 n_58_181
theorem t_58_178 : e_Sn 58 178 (e_un n_58_178) := u_incT f_l2_eq (fun _ _ _ => f_s2_eq) (s_iinc (zz := (1)) hq_58 (by decide +kernel) rfl (by decide +kernel) ⟨by decide, by decide⟩ : e_Sn 58 178 (o_iinc 2 1 181)) t_58_181
noncomputable def n_58_177 : e_Y := u_ast 0 f_okI (u_old (o_ast 0 e_okI 178) n_58_178) n_58_178
theorem t_58_177 : e_Sn 58 177 (e_un n_58_177) := u_astT (fun _ => f_okI_eq) (s_iast hq_58 (by decide +kernel) rfl : e_Sn 58 177 (o_ast 0 e_okI 178)) t_58_178
noncomputable def n_58_176 : e_Y := u_ald 0 (u_old (o_ald e_fcs 177) n_58_177) n_58_177
theorem t_58_176 : e_Sn 58 176 (e_un n_58_176) := u_aldT (s_iald hq_58 (by decide +kernel) rfl : e_Sn 58 176 (o_ald e_fcs 177)) t_58_177
noncomputable def n_58_175 : e_Y := u_ld f_okI f_l2 n_58_176
theorem t_58_175 : e_Sn 58 175 (e_un n_58_175) := u_ldIT f_l2_eq (s_iload (i := .iload_n 2) (len := 1) hq_58 (by decide +kernel) rfl (.inr ⟨2, rfl, rfl, rfl⟩) : e_Sn 58 175 (o_load e_okI 2 176)) t_58_176
noncomputable def n_58_172 : e_Y := u_getf 11 11 (u_old (o_getf (e_f1 11 11) 175) n_58_175) n_58_175
theorem t_58_172 : e_Sn 58 172 (e_un n_58_172) := u_getfT (s_getf (C := er_11) (T := et_11) (N := 15) (ref := "Plateroomprinter$World") (index := 61) (ci := 11) (k := 11) hq_58 ho_58 ⟨rfl, by decide, ei_11, r_m_2_114, .inl rfl⟩ (by decide +kernel) rfl : e_Sn 58 172 (o_getf (e_f1 11 11) 175)) t_58_175
noncomputable def n_58_171 : e_Y := u_ld f_okA f_l1 n_58_172
theorem t_58_171 : e_Sn 58 171 (e_un n_58_171) := u_ldAT f_l1_eq (s_aload (i := .aload_n 1) (len := 1) hq_58 (by decide +kernel) rfl (.inr ⟨1, rfl, rfl, rfl⟩) : e_Sn 58 171 (o_load e_okR 1 172)) t_58_172
noncomputable def n_58_170 : e_Y := u_ld f_okI f_l2 n_58_171
theorem t_58_170 : e_Sn 58 170 (e_un n_58_170) := u_ldIT f_l2_eq (s_iload (i := .iload_n 2) (len := 1) hq_58 (by decide +kernel) rfl (.inr ⟨2, rfl, rfl, rfl⟩) : e_Sn 58 170 (o_load e_okI 2 171)) t_58_171
noncomputable def n_58_167 : e_Y := u_getf 11 11 (u_old (o_getf (e_f1 11 11) 170) n_58_170) n_58_170
theorem t_58_167 : e_Sn 58 167 (e_un n_58_167) := u_getfT (s_getf (C := er_11) (T := et_11) (N := 15) (ref := "Plateroomprinter$World") (index := 61) (ci := 11) (k := 11) hq_58 ho_58 ⟨rfl, by decide, ei_11, r_m_2_114, .inl rfl⟩ (by decide +kernel) rfl : e_Sn 58 167 (o_getf (e_f1 11 11) 170)) t_58_170
noncomputable def n_58_166 : e_Y := u_ld f_okA f_l0 n_58_167
theorem t_58_166 : e_Sn 58 166 (e_un n_58_166) := u_ldAT f_l0_eq (s_aload (i := .aload_n 0) (len := 1) hq_58 (by decide +kernel) rfl (.inr ⟨0, rfl, rfl, rfl⟩) : e_Sn 58 166 (o_load e_okR 0 167)) t_58_167
noncomputable def n_58_163 : e_Y := u_jmp y_ge (u_old2 (o_clt 166 184) 166 n_58_166 n_58_184) n_58_166 n_58_184
theorem t_58_163 : e_Sn 58 163 (e_un n_58_163) := u_cltT rfl (s_cge (off := (21)) hq_58 (by decide +kernel) rfl rfl : e_Sn 58 163 (o_clt 166 184)) t_58_166 t_58_184
noncomputable def n_58_161 : e_Y := u_push (.inl 2147483701) n_58_163
theorem t_58_161 : e_Sn 58 161 (e_un n_58_161) := u_pushT (s_bipush (n := (53)) hq_58 (by decide +kernel) rfl ⟨by decide +kernel, by decide +kernel⟩ : e_Sn 58 161 (o_push (.inl 2147483701) 163)) t_58_163
noncomputable def n_58_160 : e_Y := u_ld f_okI f_l2 n_58_161
theorem t_58_160 : e_Sn 58 160 (e_un n_58_160) := u_ldIT f_l2_eq (s_iload (i := .iload_n 2) (len := 1) hq_58 (by decide +kernel) rfl (.inr ⟨2, rfl, rfl, rfl⟩) : e_Sn 58 160 (o_load e_okI 2 161)) t_58_161
noncomputable def n_58_159 : e_Y := u_st f_okI f_s2 n_58_160
theorem t_58_159 : e_Sn 58 159 (e_un n_58_159) := u_stIT (fun _ _ _ => f_s2_eq) (s_istore (i := .istore_n 2) (len := 1) hq_58 (by decide +kernel) rfl (.inr ⟨2, rfl, rfl, rfl⟩) : e_Sn 58 159 (o_store e_okI 2 160)) t_58_160
noncomputable def n_58_158 : e_Y := u_push (.inl 2147483648) n_58_159
theorem t_58_158 : e_Sn 58 158 (e_un n_58_158) := u_pushT (s_iconst (n := (0)) hq_58 (by decide +kernel) rfl ⟨by decide +kernel, by decide +kernel⟩ : e_Sn 58 158 (o_push (.inl 2147483648) 159)) t_58_159
noncomputable def n_58_155 : e_Y := u_putf 11 10 f_okI (u_old (o_putf (e_f1 11 10) e_okI 158) n_58_158) n_58_158
theorem t_58_155 : e_Sn 58 155 (e_un n_58_155) := u_putfT (fun _ => f_okI_eq) (s_putf (ty0 := ey_11) (ok := e_okI) (C := er_11) (T := et_11) (N := 15) (ref := "Plateroomprinter$World") (index := 80) (ci := 11) (k := 10) hq_58 ho_58 ⟨rfl, by decide, ei_11, r_m_2_111, .inl rfl⟩ eo_11 en_11 e_oksI (.inl rfl) (by decide +kernel) rfl : e_Sn 58 155 (o_putf (e_f1 11 10) e_okI 158)) t_58_158
noncomputable def n_58_152 : e_Y := u_getf 11 10 (u_old (o_getf (e_f1 11 10) 155) n_58_155) n_58_155
theorem t_58_152 : e_Sn 58 152 (e_un n_58_152) := u_getfT (s_getf (C := er_11) (T := et_11) (N := 15) (ref := "Plateroomprinter$World") (index := 80) (ci := 11) (k := 10) hq_58 ho_58 ⟨rfl, by decide, ei_11, r_m_2_111, .inl rfl⟩ (by decide +kernel) rfl : e_Sn 58 152 (o_getf (e_f1 11 10) 155)) t_58_155
noncomputable def n_58_151 : e_Y := u_ld f_okA f_l1 n_58_152
theorem t_58_151 : e_Sn 58 151 (e_un n_58_151) := u_ldAT f_l1_eq (s_aload (i := .aload_n 1) (len := 1) hq_58 (by decide +kernel) rfl (.inr ⟨1, rfl, rfl, rfl⟩) : e_Sn 58 151 (o_load e_okR 1 152)) t_58_152
noncomputable def n_58_150 : e_Y := u_ld f_okA f_l0 n_58_151
theorem t_58_150 : e_Sn 58 150 (e_un n_58_150) := u_ldAT f_l0_eq (s_aload (i := .aload_n 0) (len := 1) hq_58 (by decide +kernel) rfl (.inr ⟨0, rfl, rfl, rfl⟩) : e_Sn 58 150 (o_load e_okR 0 151)) t_58_151
noncomputable def n_58_147 : e_Y := u_callV 3 28 4 23 2 n_28_0 n_58_150
theorem t_58_147 : e_Sn 58 147 (e_un n_58_147) := u_callVT rfl (s_callV (ci := 3) (C := er_3) (T := et_3) (N := 5) (index := 111) hq_58 ho_58 hy_28 hp_28 hc_28 hi_28 hd_28 (r_k3 (List.mem_of_getElem? (i := 154) (by decide +kernel))) hs_28 (r_k3 (List.mem_of_getElem? (i := 156) (by decide +kernel))) rfl (by decide +kernel) rfl : e_Sn 58 147 (o_callV (e_s1 3 28 4) 2 150)) t_28_0 t_58_150
noncomputable def n_58_144 : e_Y := u_getf 11 9 (u_old (o_getf (e_f1 11 9) 147) n_58_147) n_58_147
theorem t_58_144 : e_Sn 58 144 (e_un n_58_144) := u_getfT (s_getf (C := er_11) (T := et_11) (N := 15) (ref := "Plateroomprinter$World") (index := 57) (ci := 11) (k := 9) hq_58 ho_58 ⟨rfl, by decide, ei_11, r_m_2_108, .inl rfl⟩ (by decide +kernel) rfl : e_Sn 58 144 (o_getf (e_f1 11 9) 147)) t_58_147
noncomputable def n_58_143 : e_Y := u_ld f_okA f_l1 n_58_144
theorem t_58_143 : e_Sn 58 143 (e_un n_58_143) := u_ldAT f_l1_eq (s_aload (i := .aload_n 1) (len := 1) hq_58 (by decide +kernel) rfl (.inr ⟨1, rfl, rfl, rfl⟩) : e_Sn 58 143 (o_load e_okR 1 144)) t_58_144
noncomputable def n_58_140 : e_Y := u_getf 11 9 (u_old (o_getf (e_f1 11 9) 143) n_58_143) n_58_143
theorem t_58_140 : e_Sn 58 140 (e_un n_58_140) := u_getfT (s_getf (C := er_11) (T := et_11) (N := 15) (ref := "Plateroomprinter$World") (index := 57) (ci := 11) (k := 9) hq_58 ho_58 ⟨rfl, by decide, ei_11, r_m_2_108, .inl rfl⟩ (by decide +kernel) rfl : e_Sn 58 140 (o_getf (e_f1 11 9) 143)) t_58_143
noncomputable def n_58_139 : e_Y := u_ld f_okA f_l0 n_58_140
theorem t_58_139 : e_Sn 58 139 (e_un n_58_139) := u_ldAT f_l0_eq (s_aload (i := .aload_n 0) (len := 1) hq_58 (by decide +kernel) rfl (.inr ⟨0, rfl, rfl, rfl⟩) : e_Sn 58 139 (o_load e_okR 0 140)) t_58_140
noncomputable def n_58_136 : e_Y := u_callV 9 50 3 22 2 n_50_0 n_58_139
theorem t_58_136 : e_Sn 58 136 (e_un n_58_136) := u_callVT rfl (s_callV (ci := 9) (C := er_9) (T := et_9) (N := 1) (index := 108) hq_58 ho_58 hy_50 hp_50 hc_50 hi_50 hd_50 r_m_3_150 hs_50 r_m_3_152 rfl (by decide +kernel) rfl : e_Sn 58 136 (o_callV (e_s1 9 50 3) 2 139)) t_50_0 t_58_139
noncomputable def n_58_133 : e_Y := u_getf 11 8 (u_old (o_getf (e_f1 11 8) 136) n_58_136) n_58_136
theorem t_58_133 : e_Sn 58 133 (e_un n_58_133) := u_getfT (s_getf (C := er_11) (T := et_11) (N := 15) (ref := "Plateroomprinter$World") (index := 51) (ci := 11) (k := 8) hq_58 ho_58 ⟨rfl, by decide, ei_11, r_m_2_105, .inl rfl⟩ (by decide +kernel) rfl : e_Sn 58 133 (o_getf (e_f1 11 8) 136)) t_58_136
noncomputable def n_58_132 : e_Y := u_ld f_okA f_l1 n_58_133
theorem t_58_132 : e_Sn 58 132 (e_un n_58_132) := u_ldAT f_l1_eq (s_aload (i := .aload_n 1) (len := 1) hq_58 (by decide +kernel) rfl (.inr ⟨1, rfl, rfl, rfl⟩) : e_Sn 58 132 (o_load e_okR 1 133)) t_58_133
noncomputable def n_58_129 : e_Y := u_getf 11 8 (u_old (o_getf (e_f1 11 8) 132) n_58_132) n_58_132
theorem t_58_129 : e_Sn 58 129 (e_un n_58_129) := u_getfT (s_getf (C := er_11) (T := et_11) (N := 15) (ref := "Plateroomprinter$World") (index := 51) (ci := 11) (k := 8) hq_58 ho_58 ⟨rfl, by decide, ei_11, r_m_2_105, .inl rfl⟩ (by decide +kernel) rfl : e_Sn 58 129 (o_getf (e_f1 11 8) 132)) t_58_132
noncomputable def n_58_128 : e_Y := u_ld f_okA f_l0 n_58_129
theorem t_58_128 : e_Sn 58 128 (e_un n_58_128) := u_ldAT f_l0_eq (s_aload (i := .aload_n 0) (len := 1) hq_58 (by decide +kernel) rfl (.inr ⟨0, rfl, rfl, rfl⟩) : e_Sn 58 128 (o_load e_okR 0 129)) t_58_129
noncomputable def n_58_125 : e_Y := u_callV 9 50 3 22 2 n_50_0 n_58_128
theorem t_58_125 : e_Sn 58 125 (e_un n_58_125) := u_callVT rfl (s_callV (ci := 9) (C := er_9) (T := et_9) (N := 1) (index := 108) hq_58 ho_58 hy_50 hp_50 hc_50 hi_50 hd_50 r_m_3_150 hs_50 r_m_3_152 rfl (by decide +kernel) rfl : e_Sn 58 125 (o_callV (e_s1 9 50 3) 2 128)) t_50_0 t_58_128
noncomputable def n_58_122 : e_Y := u_getf 11 7 (u_old (o_getf (e_f1 11 7) 125) n_58_125) n_58_125
theorem t_58_122 : e_Sn 58 122 (e_un n_58_122) := u_getfT (s_getf (C := er_11) (T := et_11) (N := 15) (ref := "Plateroomprinter$World") (index := 47) (ci := 11) (k := 7) hq_58 ho_58 ⟨rfl, by decide, ei_11, r_m_2_102, .inl rfl⟩ (by decide +kernel) rfl : e_Sn 58 122 (o_getf (e_f1 11 7) 125)) t_58_125
noncomputable def n_58_121 : e_Y := u_ld f_okA f_l1 n_58_122
theorem t_58_121 : e_Sn 58 121 (e_un n_58_121) := u_ldAT f_l1_eq (s_aload (i := .aload_n 1) (len := 1) hq_58 (by decide +kernel) rfl (.inr ⟨1, rfl, rfl, rfl⟩) : e_Sn 58 121 (o_load e_okR 1 122)) t_58_122
noncomputable def n_58_118 : e_Y := u_getf 11 7 (u_old (o_getf (e_f1 11 7) 121) n_58_121) n_58_121
theorem t_58_118 : e_Sn 58 118 (e_un n_58_118) := u_getfT (s_getf (C := er_11) (T := et_11) (N := 15) (ref := "Plateroomprinter$World") (index := 47) (ci := 11) (k := 7) hq_58 ho_58 ⟨rfl, by decide, ei_11, r_m_2_102, .inl rfl⟩ (by decide +kernel) rfl : e_Sn 58 118 (o_getf (e_f1 11 7) 121)) t_58_121
noncomputable def n_58_117 : e_Y := u_ld f_okA f_l0 n_58_118
theorem t_58_117 : e_Sn 58 117 (e_un n_58_117) := u_ldAT f_l0_eq (s_aload (i := .aload_n 0) (len := 1) hq_58 (by decide +kernel) rfl (.inr ⟨0, rfl, rfl, rfl⟩) : e_Sn 58 117 (o_load e_okR 0 118)) t_58_118
noncomputable def n_58_114 : e_Y := (u_at 79)
theorem t_58_114 : e_Sn 58 114 (e_un n_58_114) := u_gotoT (s_goto (off := (-35)) hq_58 (by decide +kernel) rfl : e_Sn 58 114 (o_goto 79)) u_atT
noncomputable def n_58_111 : e_Y := u_inc f_l2 f_s2 1 n_58_114
theorem t_58_111 : e_Sn 58 111 (e_un n_58_111) := u_incT f_l2_eq (fun _ _ _ => f_s2_eq) (s_iinc (zz := (1)) hq_58 (by decide +kernel) rfl (by decide +kernel) ⟨by decide, by decide⟩ : e_Sn 58 111 (o_iinc 2 1 114)) t_58_114
noncomputable def n_58_110 : e_Y := u_ast 0 f_okI (u_old (o_ast 0 e_okI 111) n_58_111) n_58_111
theorem t_58_110 : e_Sn 58 110 (e_un n_58_110) := u_astT (fun _ => f_okI_eq) (s_iast hq_58 (by decide +kernel) rfl : e_Sn 58 110 (o_ast 0 e_okI 111)) t_58_111
noncomputable def n_58_109 : e_Y := u_ald 0 (u_old (o_ald e_fcs 110) n_58_110) n_58_110
theorem t_58_109 : e_Sn 58 109 (e_un n_58_109) := u_aldT (s_iald hq_58 (by decide +kernel) rfl : e_Sn 58 109 (o_ald e_fcs 110)) t_58_110
noncomputable def n_58_108 : e_Y := u_ld f_okI f_l2 n_58_109
theorem t_58_108 : e_Sn 58 108 (e_un n_58_108) := u_ldIT f_l2_eq (s_iload (i := .iload_n 2) (len := 1) hq_58 (by decide +kernel) rfl (.inr ⟨2, rfl, rfl, rfl⟩) : e_Sn 58 108 (o_load e_okI 2 109)) t_58_109
noncomputable def n_58_105 : e_Y := u_getf 11 6 (u_old (o_getf (e_f1 11 6) 108) n_58_108) n_58_108
theorem t_58_105 : e_Sn 58 105 (e_un n_58_105) := u_getfT (s_getf (C := er_11) (T := et_11) (N := 15) (ref := "Plateroomprinter$World") (index := 40) (ci := 11) (k := 6) hq_58 ho_58 ⟨rfl, by decide, ei_11, r_m_2_99, .inl rfl⟩ (by decide +kernel) rfl : e_Sn 58 105 (o_getf (e_f1 11 6) 108)) t_58_108
noncomputable def n_58_104 : e_Y := u_ld f_okA f_l1 n_58_105
theorem t_58_104 : e_Sn 58 104 (e_un n_58_104) := u_ldAT f_l1_eq (s_aload (i := .aload_n 1) (len := 1) hq_58 (by decide +kernel) rfl (.inr ⟨1, rfl, rfl, rfl⟩) : e_Sn 58 104 (o_load e_okR 1 105)) t_58_105
noncomputable def n_58_103 : e_Y := u_ld f_okI f_l2 n_58_104
theorem t_58_103 : e_Sn 58 103 (e_un n_58_103) := u_ldIT f_l2_eq (s_iload (i := .iload_n 2) (len := 1) hq_58 (by decide +kernel) rfl (.inr ⟨2, rfl, rfl, rfl⟩) : e_Sn 58 103 (o_load e_okI 2 104)) t_58_104
noncomputable def n_58_100 : e_Y := u_getf 11 6 (u_old (o_getf (e_f1 11 6) 103) n_58_103) n_58_103
theorem t_58_100 : e_Sn 58 100 (e_un n_58_100) := u_getfT (s_getf (C := er_11) (T := et_11) (N := 15) (ref := "Plateroomprinter$World") (index := 40) (ci := 11) (k := 6) hq_58 ho_58 ⟨rfl, by decide, ei_11, r_m_2_99, .inl rfl⟩ (by decide +kernel) rfl : e_Sn 58 100 (o_getf (e_f1 11 6) 103)) t_58_103
noncomputable def n_58_99 : e_Y := u_ld f_okA f_l0 n_58_100
theorem t_58_99 : e_Sn 58 99 (e_un n_58_99) := u_ldAT f_l0_eq (s_aload (i := .aload_n 0) (len := 1) hq_58 (by decide +kernel) rfl (.inr ⟨0, rfl, rfl, rfl⟩) : e_Sn 58 99 (o_load e_okR 0 100)) t_58_100
noncomputable def n_58_96 : e_Y := u_callV 7 46 2 21 2 n_46_0 n_58_99
theorem t_58_96 : e_Sn 58 96 (e_un n_58_96) := u_callVT rfl (s_callV (ci := 7) (C := er_7) (T := et_7) (N := 6) (index := 105) hq_58 ho_58 hy_46 hp_46 hc_46 hi_46 hd_46 (r_k3 (List.mem_of_getElem? (i := 149) (by decide +kernel))) hs_46 r_m_3_141 rfl (by decide +kernel) rfl : e_Sn 58 96 (o_callV (e_s1 7 46 2) 2 99)) t_46_0 t_58_99
noncomputable def n_58_95 : e_Y := u_ald 4 (u_old (o_aldO 4 96) n_58_96) n_58_96
theorem t_58_95 : e_Sn 58 95 (e_un n_58_95) := u_aldOT (s_aald (tc := 1) rfl hq_58 (by decide +kernel) rfl : e_Sn 58 95 (o_aldO 4 96)) t_58_96
noncomputable def n_58_94 : e_Y := u_ld f_okI f_l2 n_58_95
theorem t_58_94 : e_Sn 58 94 (e_un n_58_94) := u_ldIT f_l2_eq (s_iload (i := .iload_n 2) (len := 1) hq_58 (by decide +kernel) rfl (.inr ⟨2, rfl, rfl, rfl⟩) : e_Sn 58 94 (o_load e_okI 2 95)) t_58_95
noncomputable def n_58_91 : e_Y := u_getf 11 5 (u_old (o_getf (e_f1 11 5) 94) n_58_94) n_58_94
theorem t_58_91 : e_Sn 58 91 (e_un n_58_91) := u_getfT (s_getf (C := er_11) (T := et_11) (N := 15) (ref := "Plateroomprinter$World") (index := 36) (ci := 11) (k := 5) hq_58 ho_58 ⟨rfl, by decide, ei_11, r_m_2_96, .inl rfl⟩ (by decide +kernel) rfl : e_Sn 58 91 (o_getf (e_f1 11 5) 94)) t_58_94
noncomputable def n_58_90 : e_Y := u_ld f_okA f_l1 n_58_91
theorem t_58_90 : e_Sn 58 90 (e_un n_58_90) := u_ldAT f_l1_eq (s_aload (i := .aload_n 1) (len := 1) hq_58 (by decide +kernel) rfl (.inr ⟨1, rfl, rfl, rfl⟩) : e_Sn 58 90 (o_load e_okR 1 91)) t_58_91
noncomputable def n_58_89 : e_Y := u_ald 4 (u_old (o_aldO 4 90) n_58_90) n_58_90
theorem t_58_89 : e_Sn 58 89 (e_un n_58_89) := u_aldOT (s_aald (tc := 1) rfl hq_58 (by decide +kernel) rfl : e_Sn 58 89 (o_aldO 4 90)) t_58_90
noncomputable def n_58_88 : e_Y := u_ld f_okI f_l2 n_58_89
theorem t_58_88 : e_Sn 58 88 (e_un n_58_88) := u_ldIT f_l2_eq (s_iload (i := .iload_n 2) (len := 1) hq_58 (by decide +kernel) rfl (.inr ⟨2, rfl, rfl, rfl⟩) : e_Sn 58 88 (o_load e_okI 2 89)) t_58_89
noncomputable def n_58_85 : e_Y := u_getf 11 5 (u_old (o_getf (e_f1 11 5) 88) n_58_88) n_58_88
theorem t_58_85 : e_Sn 58 85 (e_un n_58_85) := u_getfT (s_getf (C := er_11) (T := et_11) (N := 15) (ref := "Plateroomprinter$World") (index := 36) (ci := 11) (k := 5) hq_58 ho_58 ⟨rfl, by decide, ei_11, r_m_2_96, .inl rfl⟩ (by decide +kernel) rfl : e_Sn 58 85 (o_getf (e_f1 11 5) 88)) t_58_88
noncomputable def n_58_84 : e_Y := u_ld f_okA f_l0 n_58_85
theorem t_58_84 : e_Sn 58 84 (e_un n_58_84) := u_ldAT f_l0_eq (s_aload (i := .aload_n 0) (len := 1) hq_58 (by decide +kernel) rfl (.inr ⟨0, rfl, rfl, rfl⟩) : e_Sn 58 84 (o_load e_okR 0 85)) t_58_85
noncomputable def n_58_81 : e_Y := u_jmp y_ge (u_old2 (o_clt 84 117) 84 n_58_84 n_58_117) n_58_84 n_58_117
theorem t_58_81 : e_Sn 58 81 (e_un n_58_81) := u_cltT rfl (s_cge (off := (36)) hq_58 (by decide +kernel) rfl rfl : e_Sn 58 81 (o_clt 84 117)) t_58_84 t_58_117
noncomputable def n_58_80 : e_Y := u_push (.inl 2147483653) n_58_81
theorem t_58_80 : e_Sn 58 80 (e_un n_58_80) := u_pushT (s_iconst (n := (5)) hq_58 (by decide +kernel) rfl ⟨by decide +kernel, by decide +kernel⟩ : e_Sn 58 80 (o_push (.inl 2147483653) 81)) t_58_81
noncomputable def n_58_79 : e_Y := u_ld f_okI f_l2 n_58_80
theorem t_58_79 : e_Sn 58 79 (e_un n_58_79) := u_ldIT f_l2_eq (s_iload (i := .iload_n 2) (len := 1) hq_58 (by decide +kernel) rfl (.inr ⟨2, rfl, rfl, rfl⟩) : e_Sn 58 79 (o_load e_okI 2 80)) t_58_80
noncomputable def n_58_78 : e_Y := u_st f_okI f_s2 n_58_79
theorem t_58_78 : e_Sn 58 78 (e_un n_58_78) := u_stIT (fun _ _ _ => f_s2_eq) (s_istore (i := .istore_n 2) (len := 1) hq_58 (by decide +kernel) rfl (.inr ⟨2, rfl, rfl, rfl⟩) : e_Sn 58 78 (o_store e_okI 2 79)) t_58_79
noncomputable def n_58_77 : e_Y := u_push (.inl 2147483648) n_58_78
theorem t_58_77 : e_Sn 58 77 (e_un n_58_77) := u_pushT (s_iconst (n := (0)) hq_58 (by decide +kernel) rfl ⟨by decide +kernel, by decide +kernel⟩ : e_Sn 58 77 (o_push (.inl 2147483648) 78)) t_58_78
noncomputable def n_58_53 : e_Y := u_jmp y_ge (u_old2 (o_clt 56 77) 56 (u_at 56) n_58_77) (u_at 56) n_58_77
theorem t_58_53 : e_Sn 58 53 (e_un n_58_53) := u_cltT rfl (s_cge (off := (24)) hq_58 (by decide +kernel) rfl rfl : e_Sn 58 53 (o_clt 56 77)) u_atT t_58_77
noncomputable def n_58_50 : e_Y := u_getf 11 4 (u_old (o_getf (e_f1 11 4) 53) n_58_53) n_58_53
theorem t_58_50 : e_Sn 58 50 (e_un n_58_50) := u_getfT (s_getf (C := er_11) (T := et_11) (N := 15) (ref := "Plateroomprinter$World") (index := 71) (ci := 11) (k := 4) hq_58 ho_58 ⟨rfl, by decide, ei_11, r_m_2_93, .inl rfl⟩ (by decide +kernel) rfl : e_Sn 58 50 (o_getf (e_f1 11 4) 53)) t_58_53
noncomputable def n_58_49 : e_Y := u_ld f_okA f_l0 n_58_50
theorem t_58_49 : e_Sn 58 49 (e_un n_58_49) := u_ldAT f_l0_eq (s_aload (i := .aload_n 0) (len := 1) hq_58 (by decide +kernel) rfl (.inr ⟨0, rfl, rfl, rfl⟩) : e_Sn 58 49 (o_load e_okR 0 50)) t_58_50
noncomputable def n_58_48 : e_Y := u_ld f_okI f_l2 n_58_49
theorem t_58_48 : e_Sn 58 48 (e_un n_58_48) := u_ldIT f_l2_eq (s_iload (i := .iload_n 2) (len := 1) hq_58 (by decide +kernel) rfl (.inr ⟨2, rfl, rfl, rfl⟩) : e_Sn 58 48 (o_load e_okI 2 49)) t_58_49
noncomputable def n_58_47 : e_Y := u_st f_okI f_s2 n_58_48
theorem t_58_47 : e_Sn 58 47 (e_un n_58_47) := u_stIT (fun _ _ _ => f_s2_eq) (s_istore (i := .istore_n 2) (len := 1) hq_58 (by decide +kernel) rfl (.inr ⟨2, rfl, rfl, rfl⟩) : e_Sn 58 47 (o_store e_okI 2 48)) t_58_48
noncomputable def n_58_46 : e_Y := u_push (.inl 2147483648) n_58_47
theorem t_58_46 : e_Sn 58 46 (e_un n_58_46) := u_pushT (s_iconst (n := (0)) hq_58 (by decide +kernel) rfl ⟨by decide +kernel, by decide +kernel⟩ : e_Sn 58 46 (o_push (.inl 2147483648) 47)) t_58_47
noncomputable def n_58_43 : e_Y := u_putf 11 4 f_okI (u_old (o_putf (e_f1 11 4) e_okI 46) n_58_46) n_58_46
theorem t_58_43 : e_Sn 58 43 (e_un n_58_43) := u_putfT (fun _ => f_okI_eq) (s_putf (ty0 := ey_11) (ok := e_okI) (C := er_11) (T := et_11) (N := 15) (ref := "Plateroomprinter$World") (index := 71) (ci := 11) (k := 4) hq_58 ho_58 ⟨rfl, by decide, ei_11, r_m_2_93, .inl rfl⟩ eo_11 en_11 e_oksI (.inl rfl) (by decide +kernel) rfl : e_Sn 58 43 (o_putf (e_f1 11 4) e_okI 46)) t_58_46
noncomputable def n_58_40 : e_Y := u_tab (o_mmin 43)
theorem t_58_40 : e_Sn 58 40 (e_un n_58_40) := u_tabT (s_mmin (index := 99) hq_58 ho_58 (r_k3 (List.mem_of_getElem? (i := 148) (by decide +kernel))) r_m_2_48 r_m_1_5 r_m_2_49 (by decide +kernel) rfl : e_Sn 58 40 (o_mmin 43))
noncomputable def n_58_38 : e_Y := u_push (.inl 2147483656) n_58_40
theorem t_58_38 : e_Sn 58 38 (e_un n_58_38) := u_pushT (s_bipush (n := (8)) hq_58 (by decide +kernel) rfl ⟨by decide +kernel, by decide +kernel⟩ : e_Sn 58 38 (o_push (.inl 2147483656) 40)) t_58_40
noncomputable def n_58_35 : e_Y := u_getf 11 4 (u_old (o_getf (e_f1 11 4) 38) n_58_38) n_58_38
theorem t_58_35 : e_Sn 58 35 (e_un n_58_35) := u_getfT (s_getf (C := er_11) (T := et_11) (N := 15) (ref := "Plateroomprinter$World") (index := 71) (ci := 11) (k := 4) hq_58 ho_58 ⟨rfl, by decide, ei_11, r_m_2_93, .inl rfl⟩ (by decide +kernel) rfl : e_Sn 58 35 (o_getf (e_f1 11 4) 38)) t_58_38
noncomputable def n_58_34 : e_Y := u_ld f_okA f_l1 n_58_35
theorem t_58_34 : e_Sn 58 34 (e_un n_58_34) := u_ldAT f_l1_eq (s_aload (i := .aload_n 1) (len := 1) hq_58 (by decide +kernel) rfl (.inr ⟨1, rfl, rfl, rfl⟩) : e_Sn 58 34 (o_load e_okR 1 35)) t_58_35
noncomputable def n_58_33 : e_Y := u_ld f_okA f_l0 n_58_34
theorem t_58_33 : e_Sn 58 33 (e_un n_58_33) := u_ldAT f_l0_eq (s_aload (i := .aload_n 0) (len := 1) hq_58 (by decide +kernel) rfl (.inr ⟨0, rfl, rfl, rfl⟩) : e_Sn 58 33 (o_load e_okR 0 34)) t_58_34
noncomputable def n_58_30 : e_Y := u_callV 10 53 3 22 2 n_53_0 n_58_33
theorem t_58_30 : e_Sn 58 30 (e_un n_58_30) := u_callVT rfl (s_callV (ci := 10) (C := er_10) (T := et_10) (N := 11) (index := 96) hq_58 ho_58 hy_53 hp_53 hc_53 hi_53 hd_53 (r_k3 (List.mem_of_getElem? (i := 131) (by decide +kernel))) hs_53 (r_k3 (List.mem_of_getElem? (i := 133) (by decide +kernel))) rfl (by decide +kernel) rfl : e_Sn 58 30 (o_callV (e_s1 10 53 3) 2 33)) t_53_0 t_58_33
noncomputable def n_58_27 : e_Y := u_getf 11 2 (u_old (o_getf (e_f1 11 2) 30) n_58_30) n_58_30
theorem t_58_27 : e_Sn 58 27 (e_un n_58_27) := u_getfT (s_getf (C := er_11) (T := et_11) (N := 15) (ref := "Plateroomprinter$World") (index := 26) (ci := 11) (k := 2) hq_58 ho_58 ⟨rfl, by decide, ei_11, r_m_2_88, .inl rfl⟩ (by decide +kernel) rfl : e_Sn 58 27 (o_getf (e_f1 11 2) 30)) t_58_30
noncomputable def n_58_26 : e_Y := u_ld f_okA f_l1 n_58_27
theorem t_58_26 : e_Sn 58 26 (e_un n_58_26) := u_ldAT f_l1_eq (s_aload (i := .aload_n 1) (len := 1) hq_58 (by decide +kernel) rfl (.inr ⟨1, rfl, rfl, rfl⟩) : e_Sn 58 26 (o_load e_okR 1 27)) t_58_27
noncomputable def n_58_23 : e_Y := u_getf 11 2 (u_old (o_getf (e_f1 11 2) 26) n_58_26) n_58_26
theorem t_58_23 : e_Sn 58 23 (e_un n_58_23) := u_getfT (s_getf (C := er_11) (T := et_11) (N := 15) (ref := "Plateroomprinter$World") (index := 26) (ci := 11) (k := 2) hq_58 ho_58 ⟨rfl, by decide, ei_11, r_m_2_88, .inl rfl⟩ (by decide +kernel) rfl : e_Sn 58 23 (o_getf (e_f1 11 2) 26)) t_58_26
noncomputable def n_58_22 : e_Y := u_ld f_okA f_l0 n_58_23
theorem t_58_22 : e_Sn 58 22 (e_un n_58_22) := u_ldAT f_l0_eq (s_aload (i := .aload_n 0) (len := 1) hq_58 (by decide +kernel) rfl (.inr ⟨0, rfl, rfl, rfl⟩) : e_Sn 58 22 (o_load e_okR 0 23)) t_58_23
noncomputable def n_58_19 : e_Y := u_callV 4 31 4 23 2 n_31_0 n_58_22
theorem t_58_19 : e_Sn 58 19 (e_un n_58_19) := u_callVT rfl (s_callV (ci := 4) (C := er_4) (T := et_4) (N := 5) (index := 92) hq_58 ho_58 hy_31 hp_31 hc_31 hi_31 hd_31 r_m_3_127 hs_31 r_m_3_129 rfl (by decide +kernel) rfl : e_Sn 58 19 (o_callV (e_s1 4 31 4) 2 22)) t_31_0 t_58_22
noncomputable def n_58_16 : e_Y := u_getf 11 1 (u_old (o_getf (e_f1 11 1) 19) n_58_19) n_58_19
theorem t_58_16 : e_Sn 58 16 (e_un n_58_16) := u_getfT (s_getf (C := er_11) (T := et_11) (N := 15) (ref := "Plateroomprinter$World") (index := 20) (ci := 11) (k := 1) hq_58 ho_58 ⟨rfl, by decide, ei_11, r_m_2_85, .inl rfl⟩ (by decide +kernel) rfl : e_Sn 58 16 (o_getf (e_f1 11 1) 19)) t_58_19
noncomputable def n_58_15 : e_Y := u_ld f_okA f_l1 n_58_16
theorem t_58_15 : e_Sn 58 15 (e_un n_58_15) := u_ldAT f_l1_eq (s_aload (i := .aload_n 1) (len := 1) hq_58 (by decide +kernel) rfl (.inr ⟨1, rfl, rfl, rfl⟩) : e_Sn 58 15 (o_load e_okR 1 16)) t_58_16
noncomputable def n_58_12 : e_Y := u_getf 11 1 (u_old (o_getf (e_f1 11 1) 15) n_58_15) n_58_15
theorem t_58_12 : e_Sn 58 12 (e_un n_58_12) := u_getfT (s_getf (C := er_11) (T := et_11) (N := 15) (ref := "Plateroomprinter$World") (index := 20) (ci := 11) (k := 1) hq_58 ho_58 ⟨rfl, by decide, ei_11, r_m_2_85, .inl rfl⟩ (by decide +kernel) rfl : e_Sn 58 12 (o_getf (e_f1 11 1) 15)) t_58_15
noncomputable def n_58_11 : e_Y := u_ld f_okA f_l0 n_58_12
theorem t_58_11 : e_Sn 58 11 (e_un n_58_11) := u_ldAT f_l0_eq (s_aload (i := .aload_n 0) (len := 1) hq_58 (by decide +kernel) rfl (.inr ⟨0, rfl, rfl, rfl⟩) : e_Sn 58 11 (o_load e_okR 0 12)) t_58_12
noncomputable def n_58_8 : e_Y := u_callV 4 31 4 23 2 n_31_0 n_58_11
theorem t_58_8 : e_Sn 58 8 (e_un n_58_8) := u_callVT rfl (s_callV (ci := 4) (C := er_4) (T := et_4) (N := 5) (index := 92) hq_58 ho_58 hy_31 hp_31 hc_31 hi_31 hd_31 r_m_3_127 hs_31 r_m_3_129 rfl (by decide +kernel) rfl : e_Sn 58 8 (o_callV (e_s1 4 31 4) 2 11)) t_31_0 t_58_11
noncomputable def n_58_5 : e_Y := u_getf 11 0 (u_old (o_getf (e_f1 11 0) 8) n_58_8) n_58_8
theorem t_58_5 : e_Sn 58 5 (e_un n_58_5) := u_getfT (s_getf (C := er_11) (T := et_11) (N := 15) (ref := "Plateroomprinter$World") (index := 14) (ci := 11) (k := 0) hq_58 ho_58 ⟨rfl, by decide, ei_11, r_m_2_82, .inl rfl⟩ (by decide +kernel) rfl : e_Sn 58 5 (o_getf (e_f1 11 0) 8)) t_58_8
noncomputable def n_58_4 : e_Y := u_ld f_okA f_l1 n_58_5
theorem t_58_4 : e_Sn 58 4 (e_un n_58_4) := u_ldAT f_l1_eq (s_aload (i := .aload_n 1) (len := 1) hq_58 (by decide +kernel) rfl (.inr ⟨1, rfl, rfl, rfl⟩) : e_Sn 58 4 (o_load e_okR 1 5)) t_58_5
noncomputable def n_58_1 : e_Y := u_getf 11 0 (u_old (o_getf (e_f1 11 0) 4) n_58_4) n_58_4
theorem t_58_1 : e_Sn 58 1 (e_un n_58_1) := u_getfT (s_getf (C := er_11) (T := et_11) (N := 15) (ref := "Plateroomprinter$World") (index := 14) (ci := 11) (k := 0) hq_58 ho_58 ⟨rfl, by decide, ei_11, r_m_2_82, .inl rfl⟩ (by decide +kernel) rfl : e_Sn 58 1 (o_getf (e_f1 11 0) 4)) t_58_4
noncomputable def n_58_0 : e_Y := u_ld f_okA f_l0 n_58_1
theorem t_58_0 : e_Sn 58 0 (e_un n_58_0) := u_ldAT f_l0_eq (s_aload (i := .aload_n 0) (len := 1) hq_58 (by decide +kernel) rfl (.inr ⟨0, rfl, rfl, rfl⟩) : e_Sn 58 0 (o_load e_okR 0 1)) t_58_1
noncomputable def e_tb_58 : e_X := (e_br 79 (e_br 43 (e_lf 0 (e_un n_58_0)) (e_lf 43 (e_un n_58_43))) (e_br 160 (e_lf 79 (e_un n_58_79)) (e_lf 160 (e_un n_58_160))))
theorem e_tk_58 : e_Tb 58 e_tb_58 := (e_brT (e_brT (e_lfT t_58_0) (e_lfT t_58_43)) (e_brT (e_lfT t_58_79) (e_lfT t_58_160)))
theorem hq_3 : (e_ml[3]?).map (·.2.1) = some prog_1_method_6_code := Eq.trans (congrArg (Option.map (fun e => e.2.1)) hy_3) rfl
theorem ho_3 : (e_ml[3]?).map (·.1.cls) = some "Plateroomprinter" := Eq.trans (congrArg (Option.map (fun e => e.1.cls)) hy_3) rfl
theorem hr_3 : (e_ml[3]?).map (·.2.2.2) = some (some .int) := Eq.trans (congrArg (Option.map (fun e => e.2.2.2)) hy_3) rfl
noncomputable def n_3_190 : e_Y := u_retI
theorem t_3_190 : e_Sn 3 190 (e_un n_3_190) := u_retIT (s_iret hq_3 hr_3 (by decide +kernel) : e_Sn 3 190 (o_ret e_okI))
noncomputable def n_3_187 : e_Y := u_getf 0 14 (u_old (o_getf (e_f1 0 14) 190) n_3_190) n_3_190
theorem t_3_187 : e_Sn 3 187 (e_un n_3_187) := u_getfT (s_getf (C := er_0) (T := et_0) (N := 17) (ref := "Plateroomprinter") (index := 81) (ci := 0) (k := 14) hq_3 ho_3 ⟨rfl, by decide, ei_0, r_m_3_77, .inl rfl⟩ (by decide +kernel) rfl : e_Sn 3 187 (o_getf (e_f1 0 14) 190)) t_3_190
noncomputable def n_3_186 : e_Y := u_ld f_okA f_l0 n_3_187
theorem t_3_186 : e_Sn 3 186 (e_un n_3_186) := u_ldAT f_l0_eq (s_aload (i := .aload_n 0) (len := 1) hq_3 (by decide +kernel) rfl (.inr ⟨0, rfl, rfl, rfl⟩) : e_Sn 3 186 (o_load e_okR 0 187)) t_3_187
noncomputable def n_3_183 : e_Y := u_callV 0 4 4 23 4 n_4_0 n_3_186
theorem t_3_183 : e_Sn 3 183 (e_un n_3_183) := u_callVT rfl (s_callV (ci := 0) (C := er_0) (T := et_0) (N := 17) (index := 159) hq_3 ho_3 hy_4 hp_4 hc_4 hi_4 hd_4 (r_k5 (List.mem_of_getElem? (i := 128) (by decide +kernel))) hs_4 (List.mem_of_getElem? (i := 9) (by decide +kernel)) rfl (by decide +kernel) rfl : e_Sn 3 183 (o_callV (e_s1 0 4 4) 4 186)) t_4_0 t_3_186
noncomputable def n_3_182 : e_Y := u_push (.inl 2147483647) n_3_183
theorem t_3_182 : e_Sn 3 182 (e_un n_3_182) := u_pushT (s_iconst (n := (-1)) hq_3 (by decide +kernel) rfl ⟨by decide +kernel, by decide +kernel⟩ : e_Sn 3 182 (o_push (.inl 2147483647) 183)) t_3_183
noncomputable def n_3_181 : e_Y := u_push (.inl 2147483647) n_3_182
theorem t_3_181 : e_Sn 3 181 (e_un n_3_181) := u_pushT (s_iconst (n := (-1)) hq_3 (by decide +kernel) rfl ⟨by decide +kernel, by decide +kernel⟩ : e_Sn 3 181 (o_push (.inl 2147483647) 182)) t_3_182
noncomputable def n_3_180 : e_Y := u_push (.inl 2147483648) n_3_181
theorem t_3_180 : e_Sn 3 180 (e_un n_3_180) := u_pushT (s_iconst (n := (0)) hq_3 (by decide +kernel) rfl ⟨by decide +kernel, by decide +kernel⟩ : e_Sn 3 180 (o_push (.inl 2147483648) 181)) t_3_181
noncomputable def n_3_179 : e_Y := u_ld f_okA f_l0 n_3_180
theorem t_3_179 : e_Sn 3 179 (e_un n_3_179) := u_ldAT f_l0_eq (s_aload (i := .aload_n 0) (len := 1) hq_3 (by decide +kernel) rfl (.inr ⟨0, rfl, rfl, rfl⟩) : e_Sn 3 179 (o_load e_okR 0 180)) t_3_180
noncomputable def n_3_176 : e_Y := u_callV 1 12 1 20 1 n_12_0 n_3_179
theorem t_3_176 : e_Sn 3 176 (e_un n_3_176) := u_callVT rfl (s_callV (ci := 1) (C := er_1) (T := et_1) (N := 4) (index := 166) hq_3 ho_3 hy_12 hp_12 hc_12 hi_12 hd_12 (r_k5 (List.mem_of_getElem? (i := 136) (by decide +kernel))) hs_12 (r_k5 (List.mem_of_getElem? (i := 138) (by decide +kernel))) rfl (by decide +kernel) rfl : e_Sn 3 176 (o_callV (e_s1 1 12 1) 1 179)) t_12_0 t_3_179
noncomputable def n_3_173 : e_Y := u_getf 0 0 (u_old (o_getf (e_f1 0 0) 176) n_3_176) n_3_176
theorem t_3_173 : e_Sn 3 173 (e_un n_3_173) := u_getfT (s_getf (C := er_0) (T := et_0) (N := 17) (ref := "Plateroomprinter") (index := 10) (ci := 0) (k := 0) hq_3 ho_3 ⟨rfl, by decide, ei_0, r_m_3_63, .inl rfl⟩ (by decide +kernel) rfl : e_Sn 3 173 (o_getf (e_f1 0 0) 176)) t_3_176
noncomputable def n_3_172 : e_Y := u_ld f_okA f_l0 n_3_173
theorem t_3_172 : e_Sn 3 172 (e_un n_3_172) := u_ldAT f_l0_eq (s_aload (i := .aload_n 0) (len := 1) hq_3 (by decide +kernel) rfl (.inr ⟨0, rfl, rfl, rfl⟩) : e_Sn 3 172 (o_load e_okR 0 173)) t_3_173
noncomputable def n_3_169 : e_Y := u_callV 2 25 1 20 1 n_25_0 n_3_172
theorem t_3_169 : e_Sn 3 169 (e_un n_3_169) := u_callVT rfl (s_callV (ci := 2) (C := er_2) (T := et_2) (N := 19) (index := 163) hq_3 ho_3 hy_25 hp_25 hc_25 hi_25 hd_25 (r_k5 (List.mem_of_getElem? (i := 132) (by decide +kernel))) hs_25 (r_k5 (List.mem_of_getElem? (i := 134) (by decide +kernel))) rfl (by decide +kernel) rfl : e_Sn 3 169 (o_callV (e_s1 2 25 1) 1 172)) t_25_0 t_3_172
noncomputable def n_3_166 : e_Y := u_getf 0 5 (u_old (o_getf (e_f1 0 5) 169) n_3_169) n_3_169
theorem t_3_166 : e_Sn 3 166 (e_un n_3_166) := u_getfT (s_getf (C := er_0) (T := et_0) (N := 17) (ref := "Plateroomprinter") (index := 47) (ci := 0) (k := 5) hq_3 ho_3 ⟨rfl, by decide, ei_0, r_m_3_68, .inl rfl⟩ (by decide +kernel) rfl : e_Sn 3 166 (o_getf (e_f1 0 5) 169)) t_3_169
noncomputable def n_3_165 : e_Y := u_ld f_okA f_l0 n_3_166
theorem t_3_165 : e_Sn 3 165 (e_un n_3_165) := u_ldAT f_l0_eq (s_aload (i := .aload_n 0) (len := 1) hq_3 (by decide +kernel) rfl (.inr ⟨0, rfl, rfl, rfl⟩) : e_Sn 3 165 (o_load e_okR 0 166)) t_3_166
noncomputable def n_3_129 : e_Y := u_if y_le0 (u_old2 (o_ifgt 132 165) 132 (u_at 132) n_3_165) (u_at 132) n_3_165
theorem t_3_129 : e_Sn 3 129 (e_un n_3_129) := u_ifgtT rfl (s_ifle (off := (36)) hq_3 (by decide +kernel) rfl rfl : e_Sn 3 129 (o_ifgt 132 165)) u_atT t_3_165
noncomputable def n_3_128 : e_Y := u_ld f_okI f_l1 n_3_129
theorem t_3_128 : e_Sn 3 128 (e_un n_3_128) := u_ldIT f_l1_eq (s_iload (i := .iload_n 1) (len := 1) hq_3 (by decide +kernel) rfl (.inr ⟨1, rfl, rfl, rfl⟩) : e_Sn 3 128 (o_load e_okI 1 129)) t_3_129
noncomputable def n_3_125 : e_Y := (u_at 36)
theorem t_3_125 : e_Sn 3 125 (e_un n_3_125) := u_gotoT (s_goto (off := (-89)) hq_3 (by decide +kernel) rfl : e_Sn 3 125 (o_goto 36)) u_atT
noncomputable def n_3_122 : e_Y := u_inc f_l2 f_s2 1 n_3_125
theorem t_3_122 : e_Sn 3 122 (e_un n_3_122) := u_incT f_l2_eq (fun _ _ _ => f_s2_eq) (s_iinc (zz := (1)) hq_3 (by decide +kernel) rfl (by decide +kernel) ⟨by decide, by decide⟩ : e_Sn 3 122 (o_iinc 2 1 125)) t_3_125
noncomputable def n_3_121 : e_Y := u_st f_okI f_s1 n_3_122
theorem t_3_121 : e_Sn 3 121 (e_un n_3_121) := u_stIT (fun _ _ _ => f_s1_eq) (s_istore (i := .istore_n 1) (len := 1) hq_3 (by decide +kernel) rfl (.inr ⟨1, rfl, rfl, rfl⟩) : e_Sn 3 121 (o_store e_okI 1 122)) t_3_122
noncomputable def n_3_118 : e_Y := u_callV 2 21 4 23 1 n_21_0 n_3_121
theorem t_3_118 : e_Sn 3 118 (e_un n_3_118) := u_callVT rfl (s_callV (ci := 2) (C := er_2) (T := et_2) (N := 19) (index := 133) hq_3 ho_3 hy_21 hp_21 hc_21 hi_21 hd_21 r_m_3_171 hs_21 r_m_3_173 rfl (by decide +kernel) rfl : e_Sn 3 118 (o_callV (e_s1 2 21 4) 1 121)) t_21_0 t_3_121
noncomputable def n_3_115 : e_Y := u_getf 0 5 (u_old (o_getf (e_f1 0 5) 118) n_3_118) n_3_118
theorem t_3_115 : e_Sn 3 115 (e_un n_3_115) := u_getfT (s_getf (C := er_0) (T := et_0) (N := 17) (ref := "Plateroomprinter") (index := 47) (ci := 0) (k := 5) hq_3 ho_3 ⟨rfl, by decide, ei_0, r_m_3_68, .inl rfl⟩ (by decide +kernel) rfl : e_Sn 3 115 (o_getf (e_f1 0 5) 118)) t_3_118
noncomputable def n_3_114 : e_Y := u_ld f_okA f_l0 n_3_115
theorem t_3_114 : e_Sn 3 114 (e_un n_3_114) := u_ldAT f_l0_eq (s_aload (i := .aload_n 0) (len := 1) hq_3 (by decide +kernel) rfl (.inr ⟨0, rfl, rfl, rfl⟩) : e_Sn 3 114 (o_load e_okR 0 115)) t_3_115
noncomputable def n_3_111 : e_Y := u_if y_ne0 (u_old2 (o_ifeq 114 122) 114 n_3_114 n_3_122) n_3_114 n_3_122
theorem t_3_111 : e_Sn 3 111 (e_un n_3_111) := u_ifeqT rfl (s_ifne (off := (11)) hq_3 (by decide +kernel) rfl rfl : e_Sn 3 111 (o_ifeq 114 122)) t_3_114 t_3_122
noncomputable def n_3_110 : e_Y := u_ld f_okI f_l1 n_3_111
theorem t_3_110 : e_Sn 3 110 (e_un n_3_110) := u_ldIT f_l1_eq (s_iload (i := .iload_n 1) (len := 1) hq_3 (by decide +kernel) rfl (.inr ⟨1, rfl, rfl, rfl⟩) : e_Sn 3 110 (o_load e_okI 1 111)) t_3_111
noncomputable def n_3_109 : e_Y := u_st f_okI f_s1 n_3_110
theorem t_3_109 : e_Sn 3 109 (e_un n_3_109) := u_stIT (fun _ _ _ => f_s1_eq) (s_istore (i := .istore_n 1) (len := 1) hq_3 (by decide +kernel) rfl (.inr ⟨1, rfl, rfl, rfl⟩) : e_Sn 3 109 (o_store e_okI 1 110)) t_3_110
noncomputable def n_3_106 : e_Y := u_callV 2 26 2 21 2 n_26_0 n_3_109
theorem t_3_106 : e_Sn 3 106 (e_un n_3_106) := u_callVT rfl (s_callV (ci := 2) (C := er_2) (T := et_2) (N := 19) (index := 150) hq_3 ho_3 hy_26 hp_26 hc_26 hi_26 hd_26 (r_k5 (List.mem_of_getElem? (i := 124) (by decide +kernel))) hs_26 (r_k5 (List.mem_of_getElem? (i := 126) (by decide +kernel))) rfl (by decide +kernel) rfl : e_Sn 3 106 (o_callV (e_s1 2 26 2) 2 109)) t_26_0 t_3_109
noncomputable def n_3_103 : e_Y := u_callV 6 43 2 21 1 n_43_0 n_3_106
theorem t_3_103 : e_Sn 3 103 (e_un n_3_103) := u_callVT rfl (s_callV (ci := 6) (C := er_6) (T := et_6) (N := 17) (index := 126) hq_3 ho_3 hy_43 hp_43 hc_43 hi_43 hd_43 r_m_3_159 hs_43 r_m_3_161 rfl (by decide +kernel) rfl : e_Sn 3 103 (o_callV (e_s1 6 43 2) 1 106)) t_43_0 t_3_106
noncomputable def n_3_100 : e_Y := u_getf 0 4 (u_old (o_getf (e_f1 0 4) 103) n_3_103) n_3_103
theorem t_3_100 : e_Sn 3 100 (e_un n_3_100) := u_getfT (s_getf (C := er_0) (T := et_0) (N := 17) (ref := "Plateroomprinter") (index := 38) (ci := 0) (k := 4) hq_3 ho_3 ⟨rfl, by decide, ei_0, r_m_3_67, .inl rfl⟩ (by decide +kernel) rfl : e_Sn 3 100 (o_getf (e_f1 0 4) 103)) t_3_103
noncomputable def n_3_99 : e_Y := u_ld f_okA f_l0 n_3_100
theorem t_3_99 : e_Sn 3 99 (e_un n_3_99) := u_ldAT f_l0_eq (s_aload (i := .aload_n 0) (len := 1) hq_3 (by decide +kernel) rfl (.inr ⟨0, rfl, rfl, rfl⟩) : e_Sn 3 99 (o_load e_okR 0 100)) t_3_100
noncomputable def n_3_96 : e_Y := u_getf 0 5 (u_old (o_getf (e_f1 0 5) 99) n_3_99) n_3_99
theorem t_3_96 : e_Sn 3 96 (e_un n_3_96) := u_getfT (s_getf (C := er_0) (T := et_0) (N := 17) (ref := "Plateroomprinter") (index := 47) (ci := 0) (k := 5) hq_3 ho_3 ⟨rfl, by decide, ei_0, r_m_3_68, .inl rfl⟩ (by decide +kernel) rfl : e_Sn 3 96 (o_getf (e_f1 0 5) 99)) t_3_99
noncomputable def n_3_95 : e_Y := u_ld f_okA f_l0 n_3_96
theorem t_3_95 : e_Sn 3 95 (e_un n_3_95) := u_ldAT f_l0_eq (s_aload (i := .aload_n 0) (len := 1) hq_3 (by decide +kernel) rfl (.inr ⟨0, rfl, rfl, rfl⟩) : e_Sn 3 95 (o_load e_okR 0 96)) t_3_96
noncomputable def n_3_92 : e_Y := u_if y_ne0 (u_old2 (o_ifeq 95 110) 95 n_3_95 n_3_110) n_3_95 n_3_110
theorem t_3_92 : e_Sn 3 92 (e_un n_3_92) := u_ifeqT rfl (s_ifne (off := (18)) hq_3 (by decide +kernel) rfl rfl : e_Sn 3 92 (o_ifeq 95 110)) t_3_95 t_3_110
noncomputable def n_3_91 : e_Y := u_ld f_okI f_l1 n_3_92
theorem t_3_91 : e_Sn 3 91 (e_un n_3_91) := u_ldIT f_l1_eq (s_iload (i := .iload_n 1) (len := 1) hq_3 (by decide +kernel) rfl (.inr ⟨1, rfl, rfl, rfl⟩) : e_Sn 3 91 (o_load e_okI 1 92)) t_3_92
noncomputable def n_3_90 : e_Y := u_st f_okI f_s1 n_3_91
theorem t_3_90 : e_Sn 3 90 (e_un n_3_90) := u_stIT (fun _ _ _ => f_s1_eq) (s_istore (i := .istore_n 1) (len := 1) hq_3 (by decide +kernel) rfl (.inr ⟨1, rfl, rfl, rfl⟩) : e_Sn 3 90 (o_store e_okI 1 91)) t_3_91
noncomputable def n_3_87 : e_Y := u_callV 6 41 3 22 3 n_41_0 n_3_90
theorem t_3_87 : e_Sn 3 87 (e_un n_3_87) := u_callVT rfl (s_callV (ci := 6) (C := er_6) (T := et_6) (N := 17) (index := 146) hq_3 ho_3 hy_41 hp_41 hc_41 hi_41 hd_41 (r_k4 (List.mem_of_getElem? (i := 33) (by decide +kernel))) hs_41 (r_k4 (List.mem_of_getElem? (i := 35) (by decide +kernel))) rfl (by decide +kernel) rfl : e_Sn 3 87 (o_callV (e_s1 6 41 3) 3 90)) t_41_0 t_3_90
noncomputable def n_3_84 : e_Y := u_getf 2 3 (u_old (o_getf (e_f1 2 3) 87) n_3_87) n_3_87
theorem t_3_84 : e_Sn 3 84 (e_un n_3_84) := u_getfT (s_getf (C := er_2) (T := et_2) (N := 19) (ref := "Plateroomprinter$Engine") (index := 143) (ci := 2) (k := 3) hq_3 ho_3 ⟨rfl, by decide, ei_2, (r_k3 (List.mem_of_getElem? (i := 3) (by decide +kernel))), .inl rfl⟩ (by decide +kernel) rfl : e_Sn 3 84 (o_getf (e_f1 2 3) 87)) t_3_87
noncomputable def n_3_81 : e_Y := u_getf 0 5 (u_old (o_getf (e_f1 0 5) 84) n_3_84) n_3_84
theorem t_3_81 : e_Sn 3 81 (e_un n_3_81) := u_getfT (s_getf (C := er_0) (T := et_0) (N := 17) (ref := "Plateroomprinter") (index := 47) (ci := 0) (k := 5) hq_3 ho_3 ⟨rfl, by decide, ei_0, r_m_3_68, .inl rfl⟩ (by decide +kernel) rfl : e_Sn 3 81 (o_getf (e_f1 0 5) 84)) t_3_84
noncomputable def n_3_80 : e_Y := u_ld f_okA f_l0 n_3_81
theorem t_3_80 : e_Sn 3 80 (e_un n_3_80) := u_ldAT f_l0_eq (s_aload (i := .aload_n 0) (len := 1) hq_3 (by decide +kernel) rfl (.inr ⟨0, rfl, rfl, rfl⟩) : e_Sn 3 80 (o_load e_okR 0 81)) t_3_81
noncomputable def n_3_77 : e_Y := u_getf 2 16 (u_old (o_getf (e_f1 2 16) 80) n_3_80) n_3_80
theorem t_3_77 : e_Sn 3 77 (e_un n_3_77) := u_getfT (s_getf (C := er_2) (T := et_2) (N := 19) (ref := "Plateroomprinter$Engine") (index := 140) (ci := 2) (k := 16) hq_3 ho_3 ⟨rfl, by decide, ei_2, r_m_3_16, .inl rfl⟩ (by decide +kernel) rfl : e_Sn 3 77 (o_getf (e_f1 2 16) 80)) t_3_80
noncomputable def n_3_74 : e_Y := u_getf 0 5 (u_old (o_getf (e_f1 0 5) 77) n_3_77) n_3_77
theorem t_3_74 : e_Sn 3 74 (e_un n_3_74) := u_getfT (s_getf (C := er_0) (T := et_0) (N := 17) (ref := "Plateroomprinter") (index := 47) (ci := 0) (k := 5) hq_3 ho_3 ⟨rfl, by decide, ei_0, r_m_3_68, .inl rfl⟩ (by decide +kernel) rfl : e_Sn 3 74 (o_getf (e_f1 0 5) 77)) t_3_77
noncomputable def n_3_73 : e_Y := u_ld f_okA f_l0 n_3_74
theorem t_3_73 : e_Sn 3 73 (e_un n_3_73) := u_ldAT f_l0_eq (s_aload (i := .aload_n 0) (len := 1) hq_3 (by decide +kernel) rfl (.inr ⟨0, rfl, rfl, rfl⟩) : e_Sn 3 73 (o_load e_okR 0 74)) t_3_74
noncomputable def n_3_70 : e_Y := u_getf 0 4 (u_old (o_getf (e_f1 0 4) 73) n_3_73) n_3_73
theorem t_3_70 : e_Sn 3 70 (e_un n_3_70) := u_getfT (s_getf (C := er_0) (T := et_0) (N := 17) (ref := "Plateroomprinter") (index := 38) (ci := 0) (k := 4) hq_3 ho_3 ⟨rfl, by decide, ei_0, r_m_3_67, .inl rfl⟩ (by decide +kernel) rfl : e_Sn 3 70 (o_getf (e_f1 0 4) 73)) t_3_73
noncomputable def n_3_69 : e_Y := u_ld f_okA f_l0 n_3_70
theorem t_3_69 : e_Sn 3 69 (e_un n_3_69) := u_ldAT f_l0_eq (s_aload (i := .aload_n 0) (len := 1) hq_3 (by decide +kernel) rfl (.inr ⟨0, rfl, rfl, rfl⟩) : e_Sn 3 69 (o_load e_okR 0 70)) t_3_70
noncomputable def n_3_66 : e_Y := u_jmp y_ne (u_old2 (o_ceq 91 69) 91 n_3_91 n_3_69) n_3_91 n_3_69
theorem t_3_66 : e_Sn 3 66 (e_un n_3_66) := u_ceqT rfl (s_ceq (off := (25)) hq_3 (by decide +kernel) rfl rfl : e_Sn 3 66 (o_ceq 91 69)) t_3_91 t_3_69
noncomputable def n_3_65 : e_Y := u_push (.inl 2147483647) n_3_66
theorem t_3_65 : e_Sn 3 65 (e_un n_3_65) := u_pushT (s_iconst (n := (-1)) hq_3 (by decide +kernel) rfl ⟨by decide +kernel, by decide +kernel⟩ : e_Sn 3 65 (o_push (.inl 2147483647) 66)) t_3_66
noncomputable def n_3_62 : e_Y := u_getf 2 16 (u_old (o_getf (e_f1 2 16) 65) n_3_65) n_3_65
theorem t_3_62 : e_Sn 3 62 (e_un n_3_62) := u_getfT (s_getf (C := er_2) (T := et_2) (N := 19) (ref := "Plateroomprinter$Engine") (index := 140) (ci := 2) (k := 16) hq_3 ho_3 ⟨rfl, by decide, ei_2, r_m_3_16, .inl rfl⟩ (by decide +kernel) rfl : e_Sn 3 62 (o_getf (e_f1 2 16) 65)) t_3_65
noncomputable def n_3_59 : e_Y := u_getf 0 5 (u_old (o_getf (e_f1 0 5) 62) n_3_62) n_3_62
theorem t_3_59 : e_Sn 3 59 (e_un n_3_59) := u_getfT (s_getf (C := er_0) (T := et_0) (N := 17) (ref := "Plateroomprinter") (index := 47) (ci := 0) (k := 5) hq_3 ho_3 ⟨rfl, by decide, ei_0, r_m_3_68, .inl rfl⟩ (by decide +kernel) rfl : e_Sn 3 59 (o_getf (e_f1 0 5) 62)) t_3_62
noncomputable def n_3_58 : e_Y := u_ld f_okA f_l0 n_3_59
theorem t_3_58 : e_Sn 3 58 (e_un n_3_58) := u_ldAT f_l0_eq (s_aload (i := .aload_n 0) (len := 1) hq_3 (by decide +kernel) rfl (.inr ⟨0, rfl, rfl, rfl⟩) : e_Sn 3 58 (o_load e_okR 0 59)) t_3_59
noncomputable def n_3_55 : e_Y := u_if y_ne0 (u_old2 (o_ifeq 58 91) 58 n_3_58 n_3_91) n_3_58 n_3_91
theorem t_3_55 : e_Sn 3 55 (e_un n_3_55) := u_ifeqT rfl (s_ifne (off := (36)) hq_3 (by decide +kernel) rfl rfl : e_Sn 3 55 (o_ifeq 58 91)) t_3_58 t_3_91
noncomputable def n_3_54 : e_Y := u_ld f_okI f_l1 n_3_55
theorem t_3_54 : e_Sn 3 54 (e_un n_3_54) := u_ldIT f_l1_eq (s_iload (i := .iload_n 1) (len := 1) hq_3 (by decide +kernel) rfl (.inr ⟨1, rfl, rfl, rfl⟩) : e_Sn 3 54 (o_load e_okI 1 55)) t_3_55
noncomputable def n_3_53 : e_Y := u_st f_okI f_s1 n_3_54
theorem t_3_53 : e_Sn 3 53 (e_un n_3_53) := u_stIT (fun _ _ _ => f_s1_eq) (s_istore (i := .istore_n 1) (len := 1) hq_3 (by decide +kernel) rfl (.inr ⟨1, rfl, rfl, rfl⟩) : e_Sn 3 53 (o_store e_okI 1 54)) t_3_54
noncomputable def n_3_50 : e_Y := u_callV 2 23 3 22 1 n_23_0 n_3_53
theorem t_3_50 : e_Sn 3 50 (e_un n_3_50) := u_callVT rfl (s_callV (ci := 2) (C := er_2) (T := et_2) (N := 19) (index := 137) hq_3 ho_3 hy_23 hp_23 hc_23 hi_23 hd_23 (r_k3 (List.mem_of_getElem? (i := 195) (by decide +kernel))) hs_23 (r_k3 (List.mem_of_getElem? (i := 197) (by decide +kernel))) rfl (by decide +kernel) rfl : e_Sn 3 50 (o_callV (e_s1 2 23 3) 1 53)) t_23_0 t_3_53
noncomputable def n_3_47 : e_Y := u_getf 0 5 (u_old (o_getf (e_f1 0 5) 50) n_3_50) n_3_50
theorem t_3_47 : e_Sn 3 47 (e_un n_3_47) := u_getfT (s_getf (C := er_0) (T := et_0) (N := 17) (ref := "Plateroomprinter") (index := 47) (ci := 0) (k := 5) hq_3 ho_3 ⟨rfl, by decide, ei_0, r_m_3_68, .inl rfl⟩ (by decide +kernel) rfl : e_Sn 3 47 (o_getf (e_f1 0 5) 50)) t_3_50
noncomputable def n_3_46 : e_Y := u_ld f_okA f_l0 n_3_47
theorem t_3_46 : e_Sn 3 46 (e_un n_3_46) := u_ldAT f_l0_eq (s_aload (i := .aload_n 0) (len := 1) hq_3 (by decide +kernel) rfl (.inr ⟨0, rfl, rfl, rfl⟩) : e_Sn 3 46 (o_load e_okR 0 47)) t_3_47
noncomputable def n_3_43 : e_Y := u_if y_ne0 (u_old2 (o_ifeq 46 128) 46 n_3_46 n_3_128) n_3_46 n_3_128
theorem t_3_43 : e_Sn 3 43 (e_un n_3_43) := u_ifeqT rfl (s_ifne (off := (85)) hq_3 (by decide +kernel) rfl rfl : e_Sn 3 43 (o_ifeq 46 128)) t_3_46 t_3_128
noncomputable def n_3_42 : e_Y := u_ld f_okI f_l1 n_3_43
theorem t_3_42 : e_Sn 3 42 (e_un n_3_42) := u_ldIT f_l1_eq (s_iload (i := .iload_n 1) (len := 1) hq_3 (by decide +kernel) rfl (.inr ⟨1, rfl, rfl, rfl⟩) : e_Sn 3 42 (o_load e_okI 1 43)) t_3_43
noncomputable def n_3_39 : e_Y := u_jmp y_ge (u_old2 (o_clt 42 128) 42 n_3_42 n_3_128) n_3_42 n_3_128
theorem t_3_39 : e_Sn 3 39 (e_un n_3_39) := u_cltT rfl (s_cge (off := (89)) hq_3 (by decide +kernel) rfl rfl : e_Sn 3 39 (o_clt 42 128)) t_3_42 t_3_128
noncomputable def n_3_37 : e_Y := u_push (e_I 2148483648) n_3_39
theorem t_3_37 : e_Sn 3 37 (e_un n_3_37) := u_pushT (s_ldc (index := 136) (v := (1000000)) hq_3 ho_3 (r_k3 (List.mem_of_getElem? (i := 194) (by decide +kernel))) (by decide +kernel) rfl ⟨by decide +kernel, by decide +kernel⟩ : e_Sn 3 37 (o_push (e_I 2148483648) 39)) t_3_39
noncomputable def n_3_36 : e_Y := u_ld f_okI f_l2 n_3_37
theorem t_3_36 : e_Sn 3 36 (e_un n_3_36) := u_ldIT f_l2_eq (s_iload (i := .iload_n 2) (len := 1) hq_3 (by decide +kernel) rfl (.inr ⟨2, rfl, rfl, rfl⟩) : e_Sn 3 36 (o_load e_okI 2 37)) t_3_37
noncomputable def n_3_35 : e_Y := u_st f_okI f_s2 n_3_36
theorem t_3_35 : e_Sn 3 35 (e_un n_3_35) := u_stIT (fun _ _ _ => f_s2_eq) (s_istore (i := .istore_n 2) (len := 1) hq_3 (by decide +kernel) rfl (.inr ⟨2, rfl, rfl, rfl⟩) : e_Sn 3 35 (o_store e_okI 2 36)) t_3_36
noncomputable def n_3_34 : e_Y := u_push (.inl 2147483648) n_3_35
theorem t_3_34 : e_Sn 3 34 (e_un n_3_34) := u_pushT (s_iconst (n := (0)) hq_3 (by decide +kernel) rfl ⟨by decide +kernel, by decide +kernel⟩ : e_Sn 3 34 (o_push (.inl 2147483648) 35)) t_3_35
noncomputable def n_3_33 : e_Y := u_st f_okI f_s1 n_3_34
theorem t_3_33 : e_Sn 3 33 (e_un n_3_33) := u_stIT (fun _ _ _ => f_s1_eq) (s_istore (i := .istore_n 1) (len := 1) hq_3 (by decide +kernel) rfl (.inr ⟨1, rfl, rfl, rfl⟩) : e_Sn 3 33 (o_store e_okI 1 34)) t_3_34
noncomputable def n_3_30 : e_Y := u_callV 2 21 4 23 1 n_21_0 n_3_33
theorem t_3_30 : e_Sn 3 30 (e_un n_3_30) := u_callVT rfl (s_callV (ci := 2) (C := er_2) (T := et_2) (N := 19) (index := 133) hq_3 ho_3 hy_21 hp_21 hc_21 hi_21 hd_21 r_m_3_171 hs_21 r_m_3_173 rfl (by decide +kernel) rfl : e_Sn 3 30 (o_callV (e_s1 2 21 4) 1 33)) t_21_0 t_3_33
noncomputable def n_3_27 : e_Y := u_getf 0 5 (u_old (o_getf (e_f1 0 5) 30) n_3_30) n_3_30
theorem t_3_27 : e_Sn 3 27 (e_un n_3_27) := u_getfT (s_getf (C := er_0) (T := et_0) (N := 17) (ref := "Plateroomprinter") (index := 47) (ci := 0) (k := 5) hq_3 ho_3 ⟨rfl, by decide, ei_0, r_m_3_68, .inl rfl⟩ (by decide +kernel) rfl : e_Sn 3 27 (o_getf (e_f1 0 5) 30)) t_3_30
noncomputable def n_3_26 : e_Y := u_ld f_okA f_l0 n_3_27
theorem t_3_26 : e_Sn 3 26 (e_un n_3_26) := u_ldAT f_l0_eq (s_aload (i := .aload_n 0) (len := 1) hq_3 (by decide +kernel) rfl (.inr ⟨0, rfl, rfl, rfl⟩) : e_Sn 3 26 (o_load e_okR 0 27)) t_3_27
noncomputable def n_3_23 : e_Y := u_callV 2 14 1 20 1 n_14_0 n_3_26
theorem t_3_23 : e_Sn 3 23 (e_un n_3_23) := u_callVT rfl (s_callV (ci := 2) (C := er_2) (T := et_2) (N := 19) (index := 130) hq_3 ho_3 hy_14 hp_14 hc_14 hi_14 hd_14 (r_k3 (List.mem_of_getElem? (i := 163) (by decide +kernel))) hs_14 (r_k3 (List.mem_of_getElem? (i := 165) (by decide +kernel))) rfl (by decide +kernel) rfl : e_Sn 3 23 (o_callV (e_s1 2 14 1) 1 26)) t_14_0 t_3_26
noncomputable def n_3_20 : e_Y := u_getf 0 5 (u_old (o_getf (e_f1 0 5) 23) n_3_23) n_3_23
theorem t_3_20 : e_Sn 3 20 (e_un n_3_20) := u_getfT (s_getf (C := er_0) (T := et_0) (N := 17) (ref := "Plateroomprinter") (index := 47) (ci := 0) (k := 5) hq_3 ho_3 ⟨rfl, by decide, ei_0, r_m_3_68, .inl rfl⟩ (by decide +kernel) rfl : e_Sn 3 20 (o_getf (e_f1 0 5) 23)) t_3_23
noncomputable def n_3_19 : e_Y := u_ld f_okA f_l0 n_3_20
theorem t_3_19 : e_Sn 3 19 (e_un n_3_19) := u_ldAT f_l0_eq (s_aload (i := .aload_n 0) (len := 1) hq_3 (by decide +kernel) rfl (.inr ⟨0, rfl, rfl, rfl⟩) : e_Sn 3 19 (o_load e_okR 0 20)) t_3_20
noncomputable def n_3_18 : e_Y := u_pop n_3_19
theorem t_3_18 : e_Sn 3 18 (e_un n_3_18) := u_popT (s_pop hq_3 (by decide +kernel) rfl : e_Sn 3 18 (o_pop 19)) t_3_19
noncomputable def n_3_15 : e_Y := u_callV 6 43 2 21 1 n_43_0 n_3_18
theorem t_3_15 : e_Sn 3 15 (e_un n_3_15) := u_callVT rfl (s_callV (ci := 6) (C := er_6) (T := et_6) (N := 17) (index := 126) hq_3 ho_3 hy_43 hp_43 hc_43 hi_43 hd_43 r_m_3_159 hs_43 r_m_3_161 rfl (by decide +kernel) rfl : e_Sn 3 15 (o_callV (e_s1 6 43 2) 1 18)) t_43_0 t_3_18
noncomputable def n_3_12 : e_Y := u_getf 0 4 (u_old (o_getf (e_f1 0 4) 15) n_3_15) n_3_15
theorem t_3_12 : e_Sn 3 12 (e_un n_3_12) := u_getfT (s_getf (C := er_0) (T := et_0) (N := 17) (ref := "Plateroomprinter") (index := 38) (ci := 0) (k := 4) hq_3 ho_3 ⟨rfl, by decide, ei_0, r_m_3_67, .inl rfl⟩ (by decide +kernel) rfl : e_Sn 3 12 (o_getf (e_f1 0 4) 15)) t_3_15
noncomputable def n_3_11 : e_Y := u_ld f_okA f_l0 n_3_12
theorem t_3_11 : e_Sn 3 11 (e_un n_3_11) := u_ldAT f_l0_eq (s_aload (i := .aload_n 0) (len := 1) hq_3 (by decide +kernel) rfl (.inr ⟨0, rfl, rfl, rfl⟩) : e_Sn 3 11 (o_load e_okR 0 12)) t_3_12
noncomputable def n_3_8 : e_Y := u_callV 11 58 3 22 2 n_58_0 n_3_11
theorem t_3_8 : e_Sn 3 8 (e_un n_3_8) := u_callVT rfl (s_callV (ci := 11) (C := er_11) (T := et_11) (N := 15) (index := 122) hq_3 ho_3 hy_58 hp_58 hc_58 hi_58 hd_58 (r_k3 (List.mem_of_getElem? (i := 123) (by decide +kernel))) hs_58 (r_k3 (List.mem_of_getElem? (i := 125) (by decide +kernel))) rfl (by decide +kernel) rfl : e_Sn 3 8 (o_callV (e_s1 11 58 3) 2 11)) t_58_0 t_3_11
noncomputable def n_3_5 : e_Y := u_getf 0 1 (u_old (o_getf (e_f1 0 1) 8) n_3_8) n_3_8
theorem t_3_5 : e_Sn 3 5 (e_un n_3_5) := u_getfT (s_getf (C := er_0) (T := et_0) (N := 17) (ref := "Plateroomprinter") (index := 19) (ci := 0) (k := 1) hq_3 ho_3 ⟨rfl, by decide, ei_0, r_m_3_64, .inl rfl⟩ (by decide +kernel) rfl : e_Sn 3 5 (o_getf (e_f1 0 1) 8)) t_3_8
noncomputable def n_3_4 : e_Y := u_ld f_okA f_l0 n_3_5
theorem t_3_4 : e_Sn 3 4 (e_un n_3_4) := u_ldAT f_l0_eq (s_aload (i := .aload_n 0) (len := 1) hq_3 (by decide +kernel) rfl (.inr ⟨0, rfl, rfl, rfl⟩) : e_Sn 3 4 (o_load e_okR 0 5)) t_3_5
noncomputable def n_3_1 : e_Y := u_getf 0 2 (u_old (o_getf (e_f1 0 2) 4) n_3_4) n_3_4
theorem t_3_1 : e_Sn 3 1 (e_un n_3_1) := u_getfT (s_getf (C := er_0) (T := et_0) (N := 17) (ref := "Plateroomprinter") (index := 23) (ci := 0) (k := 2) hq_3 ho_3 ⟨rfl, by decide, ei_0, r_m_3_65, .inl rfl⟩ (by decide +kernel) rfl : e_Sn 3 1 (o_getf (e_f1 0 2) 4)) t_3_4
noncomputable def n_3_0 : e_Y := u_ld f_okA f_l0 n_3_1
theorem t_3_0 : e_Sn 3 0 (e_un n_3_0) := u_ldAT f_l0_eq (s_aload (i := .aload_n 0) (len := 1) hq_3 (by decide +kernel) rfl (.inr ⟨0, rfl, rfl, rfl⟩) : e_Sn 3 0 (o_load e_okR 0 1)) t_3_1
noncomputable def e_tb_3 : e_X := (e_br 36 (e_lf 0 (e_un n_3_0)) (e_lf 36 (e_un n_3_36)))
theorem e_tk_3 : e_Tb 3 e_tb_3 := (e_brT (e_lfT t_3_0) (e_lfT t_3_36))
theorem hq_8 : (e_ml[8]?).map (·.2.1) = some prog_2_method_2_code := Eq.trans (congrArg (Option.map (fun e => e.2.1)) hy_8) rfl
theorem ho_8 : (e_ml[8]?).map (·.1.cls) = some "Plateroomprinter$Code" := Eq.trans (congrArg (Option.map (fun e => e.1.cls)) hy_8) rfl
theorem hr_8 : (e_ml[8]?).map (·.2.2.2) = some none := Eq.trans (congrArg (Option.map (fun e => e.2.2.2)) hy_8) rfl
noncomputable def n_8_45 : e_Y := u_retV
theorem t_8_45 : e_Sn 8 45 (e_un n_8_45) := u_retVT (s_vret hq_8 hr_8 (by decide +kernel) : e_Sn 8 45 (o_retv))
noncomputable def n_8_42 : e_Y := u_putf 1 3 f_okI (u_old (o_putf (e_f1 1 3) e_okI 45) n_8_45) n_8_45
theorem t_8_42 : e_Sn 8 42 (e_un n_8_42) := u_putfT (fun _ => f_okI_eq) (s_putf (ty0 := ey_1) (ok := e_okI) (C := er_1) (T := et_1) (N := 4) (ref := "Plateroomprinter$Code") (index := 22) (ci := 1) (k := 3) hq_8 ho_8 ⟨rfl, by decide, ei_1, r_m_1_66, .inl rfl⟩ eo_1 en_1 e_oksI (.inl rfl) (by decide +kernel) rfl : e_Sn 8 42 (o_putf (e_f1 1 3) e_okI 45)) t_8_45
noncomputable def n_8_41 : e_Y := u_bin a_iadd (u_old (o_iadd 42) n_8_42) n_8_42
theorem t_8_41 : e_Sn 8 41 (e_un n_8_41) := u_iaddT (s_iadd hq_8 (by decide +kernel) rfl : e_Sn 8 41 (o_iadd 42)) t_8_42
noncomputable def n_8_40 : e_Y := u_push (.inl 2147483649) n_8_41
theorem t_8_40 : e_Sn 8 40 (e_un n_8_40) := u_pushT (s_iconst (n := (1)) hq_8 (by decide +kernel) rfl ⟨by decide +kernel, by decide +kernel⟩ : e_Sn 8 40 (o_push (.inl 2147483649) 41)) t_8_41
noncomputable def n_8_37 : e_Y := u_getf 1 3 (u_old (o_getf (e_f1 1 3) 40) n_8_40) n_8_40
theorem t_8_37 : e_Sn 8 37 (e_un n_8_37) := u_getfT (s_getf (C := er_1) (T := et_1) (N := 4) (ref := "Plateroomprinter$Code") (index := 22) (ci := 1) (k := 3) hq_8 ho_8 ⟨rfl, by decide, ei_1, r_m_1_66, .inl rfl⟩ (by decide +kernel) rfl : e_Sn 8 37 (o_getf (e_f1 1 3) 40)) t_8_40
noncomputable def n_8_36 : e_Y := u_old (o_dup 37) n_8_37
theorem t_8_36 : e_Sn 8 36 (e_un n_8_36) := u_oldT (s_dup hq_8 (by decide +kernel) rfl : e_Sn 8 36 (o_dup 37)) t_8_37 e_cg_dup
noncomputable def n_8_35 : e_Y := u_ld f_okA f_l0 n_8_36
theorem t_8_35 : e_Sn 8 35 (e_un n_8_35) := u_ldAT f_l0_eq (s_aload (i := .aload_n 0) (len := 1) hq_8 (by decide +kernel) rfl (.inr ⟨0, rfl, rfl, rfl⟩) : e_Sn 8 35 (o_load e_okR 0 36)) t_8_36
noncomputable def n_8_34 : e_Y := u_ast 0 f_okI (u_old (o_ast 0 e_okI 35) n_8_35) n_8_35
theorem t_8_34 : e_Sn 8 34 (e_un n_8_34) := u_astT (fun _ => f_okI_eq) (s_iast hq_8 (by decide +kernel) rfl : e_Sn 8 34 (o_ast 0 e_okI 35)) t_8_35
noncomputable def n_8_33 : e_Y := u_ld f_okI f_l2 n_8_34
theorem t_8_33 : e_Sn 8 33 (e_un n_8_33) := u_ldIT f_l2_eq (s_iload (i := .iload_n 2) (len := 1) hq_8 (by decide +kernel) rfl (.inr ⟨2, rfl, rfl, rfl⟩) : e_Sn 8 33 (o_load e_okI 2 34)) t_8_34
noncomputable def n_8_32 : e_Y := u_ld f_okI f_l3 n_8_33
theorem t_8_32 : e_Sn 8 32 (e_un n_8_32) := u_ldIT f_l3_eq (s_iload (i := .iload_n 3) (len := 1) hq_8 (by decide +kernel) rfl (.inr ⟨3, rfl, rfl, rfl⟩) : e_Sn 8 32 (o_load e_okI 3 33)) t_8_33
noncomputable def n_8_29 : e_Y := u_getf 1 1 (u_old (o_getf (e_f1 1 1) 32) n_8_32) n_8_32
theorem t_8_29 : e_Sn 8 29 (e_un n_8_29) := u_getfT (s_getf (C := er_1) (T := et_1) (N := 4) (ref := "Plateroomprinter$Code") (index := 15) (ci := 1) (k := 1) hq_8 ho_8 ⟨rfl, by decide, ei_1, r_m_1_62, .inl rfl⟩ (by decide +kernel) rfl : e_Sn 8 29 (o_getf (e_f1 1 1) 32)) t_8_32
noncomputable def n_8_28 : e_Y := u_ld f_okA f_l0 n_8_29
theorem t_8_28 : e_Sn 8 28 (e_un n_8_28) := u_ldAT f_l0_eq (s_aload (i := .aload_n 0) (len := 1) hq_8 (by decide +kernel) rfl (.inr ⟨0, rfl, rfl, rfl⟩) : e_Sn 8 28 (o_load e_okR 0 29)) t_8_29
noncomputable def n_8_27 : e_Y := u_ast 0 f_okI (u_old (o_ast 0 e_okI 28) n_8_28) n_8_28
theorem t_8_27 : e_Sn 8 27 (e_un n_8_27) := u_astT (fun _ => f_okI_eq) (s_iast hq_8 (by decide +kernel) rfl : e_Sn 8 27 (o_ast 0 e_okI 28)) t_8_28
noncomputable def n_8_26 : e_Y := u_ld f_okI f_l1 n_8_27
theorem t_8_26 : e_Sn 8 26 (e_un n_8_26) := u_ldIT f_l1_eq (s_iload (i := .iload_n 1) (len := 1) hq_8 (by decide +kernel) rfl (.inr ⟨1, rfl, rfl, rfl⟩) : e_Sn 8 26 (o_load e_okI 1 27)) t_8_27
noncomputable def n_8_25 : e_Y := u_ld f_okI f_l3 n_8_26
theorem t_8_25 : e_Sn 8 25 (e_un n_8_25) := u_ldIT f_l3_eq (s_iload (i := .iload_n 3) (len := 1) hq_8 (by decide +kernel) rfl (.inr ⟨3, rfl, rfl, rfl⟩) : e_Sn 8 25 (o_load e_okI 3 26)) t_8_26
noncomputable def n_8_22 : e_Y := u_getf 1 0 (u_old (o_getf (e_f1 1 0) 25) n_8_25) n_8_25
theorem t_8_22 : e_Sn 8 22 (e_un n_8_22) := u_getfT (s_getf (C := er_1) (T := et_1) (N := 4) (ref := "Plateroomprinter$Code") (index := 11) (ci := 1) (k := 0) hq_8 ho_8 ⟨rfl, by decide, ei_1, r_m_1_61, .inl rfl⟩ (by decide +kernel) rfl : e_Sn 8 22 (o_getf (e_f1 1 0) 25)) t_8_25
noncomputable def n_8_21 : e_Y := u_ld f_okA f_l0 n_8_22
theorem t_8_21 : e_Sn 8 21 (e_un n_8_21) := u_ldAT f_l0_eq (s_aload (i := .aload_n 0) (len := 1) hq_8 (by decide +kernel) rfl (.inr ⟨0, rfl, rfl, rfl⟩) : e_Sn 8 21 (o_load e_okR 0 22)) t_8_22
noncomputable def n_8_18 : e_Y := u_jmp y_ge (u_old2 (o_clt 21 45) 21 n_8_21 n_8_45) n_8_21 n_8_45
theorem t_8_18 : e_Sn 8 18 (e_un n_8_18) := u_cltT rfl (s_cge (off := (27)) hq_8 (by decide +kernel) rfl rfl : e_Sn 8 18 (o_clt 21 45)) t_8_21 t_8_45
noncomputable def n_8_15 : e_Y := u_push (.inl 2147485648) n_8_18
theorem t_8_15 : e_Sn 8 15 (e_un n_8_15) := u_pushT (s_sipush (n := (2000)) hq_8 (by decide +kernel) rfl ⟨by decide +kernel, by decide +kernel⟩ : e_Sn 8 15 (o_push (.inl 2147485648) 18)) t_8_18
noncomputable def n_8_14 : e_Y := u_ld f_okI f_l3 n_8_15
theorem t_8_14 : e_Sn 8 14 (e_un n_8_14) := u_ldIT f_l3_eq (s_iload (i := .iload_n 3) (len := 1) hq_8 (by decide +kernel) rfl (.inr ⟨3, rfl, rfl, rfl⟩) : e_Sn 8 14 (o_load e_okI 3 15)) t_8_15
noncomputable def n_8_11 : e_Y := u_if y_ge0 (u_old2 (o_iflt 45 14) 45 n_8_45 n_8_14) n_8_45 n_8_14
theorem t_8_11 : e_Sn 8 11 (e_un n_8_11) := u_ifltT rfl (s_iflt (off := (34)) hq_8 (by decide +kernel) rfl rfl : e_Sn 8 11 (o_iflt 45 14)) t_8_45 t_8_14
noncomputable def n_8_10 : e_Y := u_ld f_okI f_l3 n_8_11
theorem t_8_10 : e_Sn 8 10 (e_un n_8_10) := u_ldIT f_l3_eq (s_iload (i := .iload_n 3) (len := 1) hq_8 (by decide +kernel) rfl (.inr ⟨3, rfl, rfl, rfl⟩) : e_Sn 8 10 (o_load e_okI 3 11)) t_8_11
noncomputable def n_8_9 : e_Y := u_st f_okI f_s3 n_8_10
theorem t_8_9 : e_Sn 8 9 (e_un n_8_9) := u_stIT (fun _ _ _ => f_s3_eq) (s_istore (i := .istore_n 3) (len := 1) hq_8 (by decide +kernel) rfl (.inr ⟨3, rfl, rfl, rfl⟩) : e_Sn 8 9 (o_store e_okI 3 10)) t_8_10
noncomputable def n_8_8 : e_Y := u_bin a_iadd (u_old (o_iadd 9) n_8_9) n_8_9
theorem t_8_8 : e_Sn 8 8 (e_un n_8_8) := u_iaddT (s_iadd hq_8 (by decide +kernel) rfl : e_Sn 8 8 (o_iadd 9)) t_8_9
noncomputable def n_8_5 : e_Y := u_getf 1 3 (u_old (o_getf (e_f1 1 3) 8) n_8_8) n_8_8
theorem t_8_5 : e_Sn 8 5 (e_un n_8_5) := u_getfT (s_getf (C := er_1) (T := et_1) (N := 4) (ref := "Plateroomprinter$Code") (index := 22) (ci := 1) (k := 3) hq_8 ho_8 ⟨rfl, by decide, ei_1, r_m_1_66, .inl rfl⟩ (by decide +kernel) rfl : e_Sn 8 5 (o_getf (e_f1 1 3) 8)) t_8_8
noncomputable def n_8_4 : e_Y := u_ld f_okA f_l0 n_8_5
theorem t_8_4 : e_Sn 8 4 (e_un n_8_4) := u_ldAT f_l0_eq (s_aload (i := .aload_n 0) (len := 1) hq_8 (by decide +kernel) rfl (.inr ⟨0, rfl, rfl, rfl⟩) : e_Sn 8 4 (o_load e_okR 0 5)) t_8_5
noncomputable def n_8_1 : e_Y := u_getf 1 2 (u_old (o_getf (e_f1 1 2) 4) n_8_4) n_8_4
theorem t_8_1 : e_Sn 8 1 (e_un n_8_1) := u_getfT (s_getf (C := er_1) (T := et_1) (N := 4) (ref := "Plateroomprinter$Code") (index := 18) (ci := 1) (k := 2) hq_8 ho_8 ⟨rfl, by decide, ei_1, r_m_1_63, .inl rfl⟩ (by decide +kernel) rfl : e_Sn 8 1 (o_getf (e_f1 1 2) 4)) t_8_4
noncomputable def n_8_0 : e_Y := u_ld f_okA f_l0 n_8_1
theorem t_8_0 : e_Sn 8 0 (e_un n_8_0) := u_ldAT f_l0_eq (s_aload (i := .aload_n 0) (len := 1) hq_8 (by decide +kernel) rfl (.inr ⟨0, rfl, rfl, rfl⟩) : e_Sn 8 0 (o_load e_okR 0 1)) t_8_1
noncomputable def e_tb_8 : e_X := (e_lf 0 (e_un n_8_0))
theorem e_tk_8 : e_Tb 8 e_tb_8 := (e_lfT t_8_0)
theorem hq_5 : (e_ml[5]?).map (·.2.1) = some prog_1_method_3_code := Eq.trans (congrArg (Option.map (fun e => e.2.1)) hy_5) rfl
theorem ho_5 : (e_ml[5]?).map (·.1.cls) = some "Plateroomprinter" := Eq.trans (congrArg (Option.map (fun e => e.1.cls)) hy_5) rfl
theorem hr_5 : (e_ml[5]?).map (·.2.2.2) = some (some .int) := Eq.trans (congrArg (Option.map (fun e => e.2.2.2)) hy_5) rfl
noncomputable def n_5_97 : e_Y := u_retI
theorem t_5_97 : e_Sn 5 97 (e_un n_5_97) := u_retIT (s_iret hq_5 hr_5 (by decide +kernel) : e_Sn 5 97 (o_ret e_okI))
noncomputable def n_5_94 : e_Y := u_getf 1 3 (u_old (o_getf (e_f1 1 3) 97) n_5_97) n_5_97
theorem t_5_94 : e_Sn 5 94 (e_un n_5_94) := u_getfT (s_getf (C := er_1) (T := et_1) (N := 4) (ref := "Plateroomprinter$Code") (index := 101) (ci := 1) (k := 3) hq_5 ho_5 ⟨rfl, by decide, ei_1, r_m_1_67, .inl rfl⟩ (by decide +kernel) rfl : e_Sn 5 94 (o_getf (e_f1 1 3) 97)) t_5_97
noncomputable def n_5_91 : e_Y := u_getf 0 0 (u_old (o_getf (e_f1 0 0) 94) n_5_94) n_5_94
theorem t_5_91 : e_Sn 5 91 (e_un n_5_91) := u_getfT (s_getf (C := er_0) (T := et_0) (N := 17) (ref := "Plateroomprinter") (index := 10) (ci := 0) (k := 0) hq_5 ho_5 ⟨rfl, by decide, ei_0, r_m_3_63, .inl rfl⟩ (by decide +kernel) rfl : e_Sn 5 91 (o_getf (e_f1 0 0) 94)) t_5_94
noncomputable def n_5_90 : e_Y := u_ld f_okA f_l0 n_5_91
theorem t_5_90 : e_Sn 5 90 (e_un n_5_90) := u_ldAT f_l0_eq (s_aload (i := .aload_n 0) (len := 1) hq_5 (by decide +kernel) rfl (.inr ⟨0, rfl, rfl, rfl⟩) : e_Sn 5 90 (o_load e_okR 0 91)) t_5_91
noncomputable def n_5_87 : e_Y := u_callV 1 8 4 23 3 n_8_0 n_5_90
theorem t_5_87 : e_Sn 5 87 (e_un n_5_87) := u_callVT rfl (s_callV (ci := 1) (C := er_1) (T := et_1) (N := 4) (index := 109) hq_5 ho_5 hy_8 hp_8 hc_8 hi_8 hd_8 r_m_7_13 hs_8 r_m_7_15 rfl (by decide +kernel) rfl : e_Sn 5 87 (o_callV (e_s1 1 8 4) 3 90)) t_8_0 t_5_90
noncomputable def n_5_85 : e_Y := u_ld f_okI f_l6 n_5_87
theorem t_5_85 : e_Sn 5 85 (e_un n_5_85) := u_ldIT f_l6_eq (s_iload (i := .iload 6) (len := 2) hq_5 (by decide +kernel) rfl (.inl ⟨rfl, rfl⟩) : e_Sn 5 85 (o_load e_okI 6 87)) t_5_87
noncomputable def n_5_83 : e_Y := u_ld f_okI f_l5 n_5_85
theorem t_5_83 : e_Sn 5 83 (e_un n_5_83) := u_ldIT f_l5_eq (s_iload (i := .iload 5) (len := 2) hq_5 (by decide +kernel) rfl (.inl ⟨rfl, rfl⟩) : e_Sn 5 83 (o_load e_okI 5 85)) t_5_85
noncomputable def n_5_80 : e_Y := u_getf 0 0 (u_old (o_getf (e_f1 0 0) 83) n_5_83) n_5_83
theorem t_5_80 : e_Sn 5 80 (e_un n_5_80) := u_getfT (s_getf (C := er_0) (T := et_0) (N := 17) (ref := "Plateroomprinter") (index := 10) (ci := 0) (k := 0) hq_5 ho_5 ⟨rfl, by decide, ei_0, r_m_3_63, .inl rfl⟩ (by decide +kernel) rfl : e_Sn 5 80 (o_getf (e_f1 0 0) 83)) t_5_83
noncomputable def n_5_79 : e_Y := u_ld f_okA f_l0 n_5_80
theorem t_5_79 : e_Sn 5 79 (e_un n_5_79) := u_ldAT f_l0_eq (s_aload (i := .aload_n 0) (len := 1) hq_5 (by decide +kernel) rfl (.inr ⟨0, rfl, rfl, rfl⟩) : e_Sn 5 79 (o_load e_okR 0 80)) t_5_80
noncomputable def n_5_76 : e_Y := u_callV 1 8 4 23 3 n_8_0 n_5_79
theorem t_5_76 : e_Sn 5 76 (e_un n_5_76) := u_callVT rfl (s_callV (ci := 1) (C := er_1) (T := et_1) (N := 4) (index := 109) hq_5 ho_5 hy_8 hp_8 hc_8 hi_8 hd_8 r_m_7_13 hs_8 r_m_7_15 rfl (by decide +kernel) rfl : e_Sn 5 76 (o_callV (e_s1 1 8 4) 3 79)) t_8_0 t_5_79
noncomputable def n_5_74 : e_Y := u_ld f_okI f_l4 n_5_76
theorem t_5_74 : e_Sn 5 74 (e_un n_5_74) := u_ldIT f_l4_eq (s_iload (i := .iload 4) (len := 2) hq_5 (by decide +kernel) rfl (.inl ⟨rfl, rfl⟩) : e_Sn 5 74 (o_load e_okI 4 76)) t_5_76
noncomputable def n_5_73 : e_Y := u_ld f_okI f_l3 n_5_74
theorem t_5_73 : e_Sn 5 73 (e_un n_5_73) := u_ldIT f_l3_eq (s_iload (i := .iload_n 3) (len := 1) hq_5 (by decide +kernel) rfl (.inr ⟨3, rfl, rfl, rfl⟩) : e_Sn 5 73 (o_load e_okI 3 74)) t_5_74
noncomputable def n_5_70 : e_Y := u_getf 0 0 (u_old (o_getf (e_f1 0 0) 73) n_5_73) n_5_73
theorem t_5_70 : e_Sn 5 70 (e_un n_5_70) := u_getfT (s_getf (C := er_0) (T := et_0) (N := 17) (ref := "Plateroomprinter") (index := 10) (ci := 0) (k := 0) hq_5 ho_5 ⟨rfl, by decide, ei_0, r_m_3_63, .inl rfl⟩ (by decide +kernel) rfl : e_Sn 5 70 (o_getf (e_f1 0 0) 73)) t_5_73
noncomputable def n_5_69 : e_Y := u_ld f_okA f_l0 n_5_70
theorem t_5_69 : e_Sn 5 69 (e_un n_5_69) := u_ldAT f_l0_eq (s_aload (i := .aload_n 0) (len := 1) hq_5 (by decide +kernel) rfl (.inr ⟨0, rfl, rfl, rfl⟩) : e_Sn 5 69 (o_load e_okR 0 70)) t_5_70
noncomputable def n_5_66 : e_Y := u_callV 1 8 4 23 3 n_8_0 n_5_69
theorem t_5_66 : e_Sn 5 66 (e_un n_5_66) := u_callVT rfl (s_callV (ci := 1) (C := er_1) (T := et_1) (N := 4) (index := 109) hq_5 ho_5 hy_8 hp_8 hc_8 hi_8 hd_8 r_m_7_13 hs_8 r_m_7_15 rfl (by decide +kernel) rfl : e_Sn 5 66 (o_callV (e_s1 1 8 4) 3 69)) t_8_0 t_5_69
noncomputable def n_5_65 : e_Y := u_ld f_okI f_l2 n_5_66
theorem t_5_65 : e_Sn 5 65 (e_un n_5_65) := u_ldIT f_l2_eq (s_iload (i := .iload_n 2) (len := 1) hq_5 (by decide +kernel) rfl (.inr ⟨2, rfl, rfl, rfl⟩) : e_Sn 5 65 (o_load e_okI 2 66)) t_5_66
noncomputable def n_5_64 : e_Y := u_ld f_okI f_l1 n_5_65
theorem t_5_64 : e_Sn 5 64 (e_un n_5_64) := u_ldIT f_l1_eq (s_iload (i := .iload_n 1) (len := 1) hq_5 (by decide +kernel) rfl (.inr ⟨1, rfl, rfl, rfl⟩) : e_Sn 5 64 (o_load e_okI 1 65)) t_5_65
noncomputable def n_5_61 : e_Y := u_getf 0 0 (u_old (o_getf (e_f1 0 0) 64) n_5_64) n_5_64
theorem t_5_61 : e_Sn 5 61 (e_un n_5_61) := u_getfT (s_getf (C := er_0) (T := et_0) (N := 17) (ref := "Plateroomprinter") (index := 10) (ci := 0) (k := 0) hq_5 ho_5 ⟨rfl, by decide, ei_0, r_m_3_63, .inl rfl⟩ (by decide +kernel) rfl : e_Sn 5 61 (o_getf (e_f1 0 0) 64)) t_5_64
noncomputable def n_5_60 : e_Y := u_ld f_okA f_l0 n_5_61
theorem t_5_60 : e_Sn 5 60 (e_un n_5_60) := u_ldAT f_l0_eq (s_aload (i := .aload_n 0) (len := 1) hq_5 (by decide +kernel) rfl (.inr ⟨0, rfl, rfl, rfl⟩) : e_Sn 5 60 (o_load e_okR 0 61)) t_5_61
noncomputable def n_5_47 : e_Y := u_jmp y_le (u_old2 (o_cgt 50 60) 50 (u_at 50) n_5_60) (u_at 50) n_5_60
theorem t_5_47 : e_Sn 5 47 (e_un n_5_47) := u_cgtT rfl (s_cle (off := (13)) hq_5 (by decide +kernel) rfl rfl : e_Sn 5 47 (o_cgt 50 60)) u_atT t_5_60
noncomputable def n_5_44 : e_Y := u_push (.inl 2147484045) n_5_47
theorem t_5_44 : e_Sn 5 44 (e_un n_5_44) := u_pushT (s_sipush (n := (397)) hq_5 (by decide +kernel) rfl ⟨by decide +kernel, by decide +kernel⟩ : e_Sn 5 44 (o_push (.inl 2147484045) 47)) t_5_47
noncomputable def n_5_41 : e_Y := u_getf 1 3 (u_old (o_getf (e_f1 1 3) 44) n_5_44) n_5_44
theorem t_5_41 : e_Sn 5 41 (e_un n_5_41) := u_getfT (s_getf (C := er_1) (T := et_1) (N := 4) (ref := "Plateroomprinter$Code") (index := 101) (ci := 1) (k := 3) hq_5 ho_5 ⟨rfl, by decide, ei_1, r_m_1_67, .inl rfl⟩ (by decide +kernel) rfl : e_Sn 5 41 (o_getf (e_f1 1 3) 44)) t_5_44
noncomputable def n_5_38 : e_Y := u_getf 0 0 (u_old (o_getf (e_f1 0 0) 41) n_5_41) n_5_41
theorem t_5_38 : e_Sn 5 38 (e_un n_5_38) := u_getfT (s_getf (C := er_0) (T := et_0) (N := 17) (ref := "Plateroomprinter") (index := 10) (ci := 0) (k := 0) hq_5 ho_5 ⟨rfl, by decide, ei_0, r_m_3_63, .inl rfl⟩ (by decide +kernel) rfl : e_Sn 5 38 (o_getf (e_f1 0 0) 41)) t_5_41
noncomputable def n_5_37 : e_Y := u_ld f_okA f_l0 n_5_38
theorem t_5_37 : e_Sn 5 37 (e_un n_5_37) := u_ldAT f_l0_eq (s_aload (i := .aload_n 0) (len := 1) hq_5 (by decide +kernel) rfl (.inr ⟨0, rfl, rfl, rfl⟩) : e_Sn 5 37 (o_load e_okR 0 38)) t_5_38
noncomputable def n_5_24 : e_Y := u_if y_ne0 (u_old2 (o_ifeq 27 37) 27 (u_at 27) n_5_37) (u_at 27) n_5_37
theorem t_5_24 : e_Sn 5 24 (e_un n_5_24) := u_ifeqT rfl (s_ifne (off := (13)) hq_5 (by decide +kernel) rfl rfl : e_Sn 5 24 (o_ifeq 27 37)) u_atT t_5_37
noncomputable def n_5_21 : e_Y := u_callS 2 2 21 2 n_2_0 n_5_24
theorem t_5_21 : e_Sn 5 21 (e_un n_5_21) := u_callST rfl (s_callS (index := 90) hq_5 ho_5 hy_2 hp_2 hc_2 hi_2 hd_2 r_m_6_233 hs_2 (by decide +kernel) rfl : e_Sn 5 21 (o_callS 2 2 2 24)) t_2_0 t_5_24
noncomputable def n_5_19 : e_Y := u_ld f_okI f_l6 n_5_21
theorem t_5_19 : e_Sn 5 19 (e_un n_5_19) := u_ldIT f_l6_eq (s_iload (i := .iload 6) (len := 2) hq_5 (by decide +kernel) rfl (.inl ⟨rfl, rfl⟩) : e_Sn 5 19 (o_load e_okI 6 21)) t_5_21
noncomputable def n_5_17 : e_Y := u_ld f_okI f_l5 n_5_19
theorem t_5_17 : e_Sn 5 17 (e_un n_5_17) := u_ldIT f_l5_eq (s_iload (i := .iload 5) (len := 2) hq_5 (by decide +kernel) rfl (.inl ⟨rfl, rfl⟩) : e_Sn 5 17 (o_load e_okI 5 19)) t_5_19
noncomputable def n_5_14 : e_Y := u_if y_ne0 (u_old2 (o_ifeq 27 17) 27 (u_at 27) n_5_17) (u_at 27) n_5_17
theorem t_5_14 : e_Sn 5 14 (e_un n_5_14) := u_ifeqT rfl (s_ifeq (off := (13)) hq_5 (by decide +kernel) rfl rfl : e_Sn 5 14 (o_ifeq 27 17)) u_atT t_5_17
noncomputable def n_5_11 : e_Y := u_callS 2 2 21 2 n_2_0 n_5_14
theorem t_5_11 : e_Sn 5 11 (e_un n_5_11) := u_callST rfl (s_callS (index := 90) hq_5 ho_5 hy_2 hp_2 hc_2 hi_2 hd_2 r_m_6_233 hs_2 (by decide +kernel) rfl : e_Sn 5 11 (o_callS 2 2 2 14)) t_2_0 t_5_14
noncomputable def n_5_9 : e_Y := u_ld f_okI f_l4 n_5_11
theorem t_5_9 : e_Sn 5 9 (e_un n_5_9) := u_ldIT f_l4_eq (s_iload (i := .iload 4) (len := 2) hq_5 (by decide +kernel) rfl (.inl ⟨rfl, rfl⟩) : e_Sn 5 9 (o_load e_okI 4 11)) t_5_11
noncomputable def n_5_8 : e_Y := u_ld f_okI f_l3 n_5_9
theorem t_5_8 : e_Sn 5 8 (e_un n_5_8) := u_ldIT f_l3_eq (s_iload (i := .iload_n 3) (len := 1) hq_5 (by decide +kernel) rfl (.inr ⟨3, rfl, rfl, rfl⟩) : e_Sn 5 8 (o_load e_okI 3 9)) t_5_9
noncomputable def n_5_5 : e_Y := u_if y_ne0 (u_old2 (o_ifeq 27 8) 27 (u_at 27) n_5_8) (u_at 27) n_5_8
theorem t_5_5 : e_Sn 5 5 (e_un n_5_5) := u_ifeqT rfl (s_ifeq (off := (22)) hq_5 (by decide +kernel) rfl rfl : e_Sn 5 5 (o_ifeq 27 8)) u_atT t_5_8
noncomputable def n_5_2 : e_Y := u_callS 2 2 21 2 n_2_0 n_5_5
theorem t_5_2 : e_Sn 5 2 (e_un n_5_2) := u_callST rfl (s_callS (index := 90) hq_5 ho_5 hy_2 hp_2 hc_2 hi_2 hd_2 r_m_6_233 hs_2 (by decide +kernel) rfl : e_Sn 5 2 (o_callS 2 2 2 5)) t_2_0 t_5_5
noncomputable def n_5_1 : e_Y := u_ld f_okI f_l2 n_5_2
theorem t_5_1 : e_Sn 5 1 (e_un n_5_1) := u_ldIT f_l2_eq (s_iload (i := .iload_n 2) (len := 1) hq_5 (by decide +kernel) rfl (.inr ⟨2, rfl, rfl, rfl⟩) : e_Sn 5 1 (o_load e_okI 2 2)) t_5_2
noncomputable def n_5_0 : e_Y := u_ld f_okI f_l1 n_5_1
theorem t_5_0 : e_Sn 5 0 (e_un n_5_0) := u_ldIT f_l1_eq (s_iload (i := .iload_n 1) (len := 1) hq_5 (by decide +kernel) rfl (.inr ⟨1, rfl, rfl, rfl⟩) : e_Sn 5 0 (o_load e_okI 1 1)) t_5_1
noncomputable def e_tb_5 : e_X := (e_lf 0 (e_un n_5_0))
theorem e_tk_5 : e_Tb 5 e_tb_5 := (e_lfT t_5_0)
theorem hq_6 : (e_ml[6]?).map (·.2.1) = some prog_1_method_2_code := Eq.trans (congrArg (Option.map (fun e => e.2.1)) hy_6) rfl
theorem ho_6 : (e_ml[6]?).map (·.1.cls) = some "Plateroomprinter" := Eq.trans (congrArg (Option.map (fun e => e.1.cls)) hy_6) rfl
theorem hr_6 : (e_ml[6]?).map (·.2.2.2) = some (some .int) := Eq.trans (congrArg (Option.map (fun e => e.2.2.2)) hy_6) rfl
noncomputable def n_6_57 : e_Y := u_retI
theorem t_6_57 : e_Sn 6 57 (e_un n_6_57) := u_retIT (s_iret hq_6 hr_6 (by decide +kernel) : e_Sn 6 57 (o_ret e_okI))
noncomputable def n_6_54 : e_Y := u_getf 1 3 (u_old (o_getf (e_f1 1 3) 57) n_6_57) n_6_57
theorem t_6_54 : e_Sn 6 54 (e_un n_6_54) := u_getfT (s_getf (C := er_1) (T := et_1) (N := 4) (ref := "Plateroomprinter$Code") (index := 101) (ci := 1) (k := 3) hq_6 ho_6 ⟨rfl, by decide, ei_1, r_m_1_67, .inl rfl⟩ (by decide +kernel) rfl : e_Sn 6 54 (o_getf (e_f1 1 3) 57)) t_6_57
noncomputable def n_6_51 : e_Y := u_getf 0 0 (u_old (o_getf (e_f1 0 0) 54) n_6_54) n_6_54
theorem t_6_51 : e_Sn 6 51 (e_un n_6_51) := u_getfT (s_getf (C := er_0) (T := et_0) (N := 17) (ref := "Plateroomprinter") (index := 10) (ci := 0) (k := 0) hq_6 ho_6 ⟨rfl, by decide, ei_0, r_m_3_63, .inl rfl⟩ (by decide +kernel) rfl : e_Sn 6 51 (o_getf (e_f1 0 0) 54)) t_6_54
noncomputable def n_6_50 : e_Y := u_ld f_okA f_l0 n_6_51
theorem t_6_50 : e_Sn 6 50 (e_un n_6_50) := u_ldAT f_l0_eq (s_aload (i := .aload_n 0) (len := 1) hq_6 (by decide +kernel) rfl (.inr ⟨0, rfl, rfl, rfl⟩) : e_Sn 6 50 (o_load e_okR 0 51)) t_6_51
noncomputable def n_6_47 : e_Y := u_callV 1 8 4 23 3 n_8_0 n_6_50
theorem t_6_47 : e_Sn 6 47 (e_un n_6_47) := u_callVT rfl (s_callV (ci := 1) (C := er_1) (T := et_1) (N := 4) (index := 109) hq_6 ho_6 hy_8 hp_8 hc_8 hi_8 hd_8 r_m_7_13 hs_8 r_m_7_15 rfl (by decide +kernel) rfl : e_Sn 6 47 (o_callV (e_s1 1 8 4) 3 50)) t_8_0 t_6_50
noncomputable def n_6_46 : e_Y := u_ld f_okI f_l2 n_6_47
theorem t_6_46 : e_Sn 6 46 (e_un n_6_46) := u_ldIT f_l2_eq (s_iload (i := .iload_n 2) (len := 1) hq_6 (by decide +kernel) rfl (.inr ⟨2, rfl, rfl, rfl⟩) : e_Sn 6 46 (o_load e_okI 2 47)) t_6_47
noncomputable def n_6_45 : e_Y := u_ld f_okI f_l1 n_6_46
theorem t_6_45 : e_Sn 6 45 (e_un n_6_45) := u_ldIT f_l1_eq (s_iload (i := .iload_n 1) (len := 1) hq_6 (by decide +kernel) rfl (.inr ⟨1, rfl, rfl, rfl⟩) : e_Sn 6 45 (o_load e_okI 1 46)) t_6_46
noncomputable def n_6_42 : e_Y := u_getf 0 0 (u_old (o_getf (e_f1 0 0) 45) n_6_45) n_6_45
theorem t_6_42 : e_Sn 6 42 (e_un n_6_42) := u_getfT (s_getf (C := er_0) (T := et_0) (N := 17) (ref := "Plateroomprinter") (index := 10) (ci := 0) (k := 0) hq_6 ho_6 ⟨rfl, by decide, ei_0, r_m_3_63, .inl rfl⟩ (by decide +kernel) rfl : e_Sn 6 42 (o_getf (e_f1 0 0) 45)) t_6_45
noncomputable def n_6_41 : e_Y := u_ld f_okA f_l0 n_6_42
theorem t_6_41 : e_Sn 6 41 (e_un n_6_41) := u_ldAT f_l0_eq (s_aload (i := .aload_n 0) (len := 1) hq_6 (by decide +kernel) rfl (.inr ⟨0, rfl, rfl, rfl⟩) : e_Sn 6 41 (o_load e_okR 0 42)) t_6_42
noncomputable def n_6_28 : e_Y := u_jmp y_ge (u_old2 (o_clt 41 31) 41 n_6_41 (u_at 31)) n_6_41 (u_at 31)
theorem t_6_28 : e_Sn 6 28 (e_un n_6_28) := u_cltT rfl (s_clt (off := (13)) hq_6 (by decide +kernel) rfl rfl : e_Sn 6 28 (o_clt 41 31)) t_6_41 u_atT
noncomputable def n_6_25 : e_Y := u_push (.inl 2147484048) n_6_28
theorem t_6_25 : e_Sn 6 25 (e_un n_6_25) := u_pushT (s_sipush (n := (400)) hq_6 (by decide +kernel) rfl ⟨by decide +kernel, by decide +kernel⟩ : e_Sn 6 25 (o_push (.inl 2147484048) 28)) t_6_28
noncomputable def n_6_22 : e_Y := u_getf 1 3 (u_old (o_getf (e_f1 1 3) 25) n_6_25) n_6_25
theorem t_6_22 : e_Sn 6 22 (e_un n_6_22) := u_getfT (s_getf (C := er_1) (T := et_1) (N := 4) (ref := "Plateroomprinter$Code") (index := 101) (ci := 1) (k := 3) hq_6 ho_6 ⟨rfl, by decide, ei_1, r_m_1_67, .inl rfl⟩ (by decide +kernel) rfl : e_Sn 6 22 (o_getf (e_f1 1 3) 25)) t_6_25
noncomputable def n_6_19 : e_Y := u_getf 0 0 (u_old (o_getf (e_f1 0 0) 22) n_6_22) n_6_22
theorem t_6_19 : e_Sn 6 19 (e_un n_6_19) := u_getfT (s_getf (C := er_0) (T := et_0) (N := 17) (ref := "Plateroomprinter") (index := 10) (ci := 0) (k := 0) hq_6 ho_6 ⟨rfl, by decide, ei_0, r_m_3_63, .inl rfl⟩ (by decide +kernel) rfl : e_Sn 6 19 (o_getf (e_f1 0 0) 22)) t_6_22
noncomputable def n_6_18 : e_Y := u_ld f_okA f_l0 n_6_19
theorem t_6_18 : e_Sn 6 18 (e_un n_6_18) := u_ldAT f_l0_eq (s_aload (i := .aload_n 0) (len := 1) hq_6 (by decide +kernel) rfl (.inr ⟨0, rfl, rfl, rfl⟩) : e_Sn 6 18 (o_load e_okR 0 19)) t_6_19
noncomputable def n_6_5 : e_Y := u_if y_ne0 (u_old2 (o_ifeq 8 18) 8 (u_at 8) n_6_18) (u_at 8) n_6_18
theorem t_6_5 : e_Sn 6 5 (e_un n_6_5) := u_ifeqT rfl (s_ifne (off := (13)) hq_6 (by decide +kernel) rfl rfl : e_Sn 6 5 (o_ifeq 8 18)) u_atT t_6_18
noncomputable def n_6_2 : e_Y := u_callS 2 2 21 2 n_2_0 n_6_5
theorem t_6_2 : e_Sn 6 2 (e_un n_6_2) := u_callST rfl (s_callS (index := 90) hq_6 ho_6 hy_2 hp_2 hc_2 hi_2 hd_2 r_m_6_233 hs_2 (by decide +kernel) rfl : e_Sn 6 2 (o_callS 2 2 2 5)) t_2_0 t_6_5
noncomputable def n_6_1 : e_Y := u_ld f_okI f_l2 n_6_2
theorem t_6_1 : e_Sn 6 1 (e_un n_6_1) := u_ldIT f_l2_eq (s_iload (i := .iload_n 2) (len := 1) hq_6 (by decide +kernel) rfl (.inr ⟨2, rfl, rfl, rfl⟩) : e_Sn 6 1 (o_load e_okI 2 2)) t_6_2
noncomputable def n_6_0 : e_Y := u_ld f_okI f_l1 n_6_1
theorem t_6_0 : e_Sn 6 0 (e_un n_6_0) := u_ldIT f_l1_eq (s_iload (i := .iload_n 1) (len := 1) hq_6 (by decide +kernel) rfl (.inr ⟨1, rfl, rfl, rfl⟩) : e_Sn 6 0 (o_load e_okI 1 1)) t_6_1
noncomputable def e_tb_6 : e_X := (e_lf 0 (e_un n_6_0))
theorem e_tk_6 : e_Tb 6 e_tb_6 := (e_lfT t_6_0)
theorem hq_59 : (e_ml[59]?).map (·.2.1) = some method_4_code := Eq.trans (congrArg (Option.map (fun e => e.2.1)) hy_59) rfl
theorem ho_59 : (e_ml[59]?).map (·.1.cls) = some "PlateroomprinterLaw" := Eq.trans (congrArg (Option.map (fun e => e.1.cls)) hy_59) rfl
theorem hr_59 : (e_ml[59]?).map (·.2.2.2) = some (some .int) := Eq.trans (congrArg (Option.map (fun e => e.2.2.2)) hy_59) rfl
noncomputable def n_59_30 : e_Y := u_retI
theorem t_59_30 : e_Sn 59 30 (e_un n_59_30) := u_retIT (s_iret hq_59 hr_59 (by decide +kernel) : e_Sn 59 30 (o_ret e_okI))
noncomputable def n_59_29 : e_Y := u_push (.inl 2147483648) n_59_30
theorem t_59_29 : e_Sn 59 29 (e_un n_59_29) := u_pushT (s_iconst (n := (0)) hq_59 (by decide +kernel) rfl ⟨by decide +kernel, by decide +kernel⟩ : e_Sn 59 29 (o_push (.inl 2147483648) 30)) t_59_30
noncomputable def n_59_18 : e_Y := n_59_29
theorem t_59_18 : e_Sn 59 18 (e_un n_59_18) := u_gotoT (s_goto (off := (11)) hq_59 (by decide +kernel) rfl : e_Sn 59 18 (o_goto 29)) t_59_29
noncomputable def n_59_17 : e_Y := u_old (o_ast 2 e_okL 18) n_59_18
theorem t_59_17 : e_Sn 59 17 (e_un n_59_17) := u_oldT (s_last hq_59 (by decide +kernel) rfl : e_Sn 59 17 (o_ast 2 e_okL 18)) t_59_18 (e_cg_ast 2 e_okL)
noncomputable def n_59_16 : e_Y := u_old (o_i2l 17) n_59_17
theorem t_59_16 : e_Sn 59 16 (e_un n_59_16) := u_oldT (s_i2l hq_59 (by decide +kernel) rfl : e_Sn 59 16 (o_i2l 17)) t_59_17 e_congr_i2l
noncomputable def n_59_13 : e_Y := u_tab (o_callVX (e_s1 0 5 7) 7 16 [(0, 21), (1, 25)])
theorem t_59_13 : e_Sn 59 13 (e_un n_59_13) := u_tabT (s_callVX (ci := 0) (C := er_0) (T := et_0) (N := 17) (index := 17) hq_59 ho_59 hy_5 hp_5 hc_5 hi_5 hd_5 (r_k7 (List.mem_of_getElem? (i := 20) (by decide +kernel))) hs_5 (r_k7 (List.mem_of_getElem? (i := 22) (by decide +kernel))) rfl (by decide +kernel) rfl hy_59 hc_59 (e_hc2 rfl rfl (by decide) r_m_6_227 r_m_5_199 rfl rfl (by decide) r_m_6_228 r_m_6_239 (by simp [e_nc])) : e_Sn 59 13 (o_callVX (e_s1 0 5 7) 7 16 [(0, 21), (1, 25)]))
noncomputable def n_59_11 : e_Y := u_ld f_okI f_l6 n_59_13
theorem t_59_11 : e_Sn 59 11 (e_un n_59_11) := u_ldIT f_l6_eq (s_iload (i := .iload 6) (len := 2) hq_59 (by decide +kernel) rfl (.inl ⟨rfl, rfl⟩) : e_Sn 59 11 (o_load e_okI 6 13)) t_59_13
noncomputable def n_59_9 : e_Y := u_ld f_okI f_l5 n_59_11
theorem t_59_9 : e_Sn 59 9 (e_un n_59_9) := u_ldIT f_l5_eq (s_iload (i := .iload 5) (len := 2) hq_59 (by decide +kernel) rfl (.inl ⟨rfl, rfl⟩) : e_Sn 59 9 (o_load e_okI 5 11)) t_59_11
noncomputable def n_59_7 : e_Y := u_ld f_okI f_l4 n_59_9
theorem t_59_7 : e_Sn 59 7 (e_un n_59_7) := u_ldIT f_l4_eq (s_iload (i := .iload 4) (len := 2) hq_59 (by decide +kernel) rfl (.inl ⟨rfl, rfl⟩) : e_Sn 59 7 (o_load e_okI 4 9)) t_59_9
noncomputable def n_59_6 : e_Y := u_ld f_okI f_l3 n_59_7
theorem t_59_6 : e_Sn 59 6 (e_un n_59_6) := u_ldIT f_l3_eq (s_iload (i := .iload_n 3) (len := 1) hq_59 (by decide +kernel) rfl (.inr ⟨3, rfl, rfl, rfl⟩) : e_Sn 59 6 (o_load e_okI 3 7)) t_59_7
noncomputable def n_59_5 : e_Y := u_ld f_okI f_l2 n_59_6
theorem t_59_5 : e_Sn 59 5 (e_un n_59_5) := u_ldIT f_l2_eq (s_iload (i := .iload_n 2) (len := 1) hq_59 (by decide +kernel) rfl (.inr ⟨2, rfl, rfl, rfl⟩) : e_Sn 59 5 (o_load e_okI 2 6)) t_59_6
noncomputable def n_59_4 : e_Y := u_ld f_okI f_l1 n_59_5
theorem t_59_4 : e_Sn 59 4 (e_un n_59_4) := u_ldIT f_l1_eq (s_iload (i := .iload_n 1) (len := 1) hq_59 (by decide +kernel) rfl (.inr ⟨1, rfl, rfl, rfl⟩) : e_Sn 59 4 (o_load e_okI 1 5)) t_59_5
noncomputable def n_59_3 : e_Y := u_ld f_okA f_l0 n_59_4
theorem t_59_3 : e_Sn 59 3 (e_un n_59_3) := u_ldAT f_l0_eq (s_aload (i := .aload_n 0) (len := 1) hq_59 (by decide +kernel) rfl (.inr ⟨0, rfl, rfl, rfl⟩) : e_Sn 59 3 (o_load e_okR 0 4)) t_59_4
noncomputable def n_59_2 : e_Y := u_push (.inl 2147483648) n_59_3
theorem t_59_2 : e_Sn 59 2 (e_un n_59_2) := u_pushT (s_iconst (n := (0)) hq_59 (by decide +kernel) rfl ⟨by decide +kernel, by decide +kernel⟩ : e_Sn 59 2 (o_push (.inl 2147483648) 3)) t_59_3
noncomputable def n_59_0 : e_Y := u_ld f_okA f_l7 n_59_2
theorem t_59_0 : e_Sn 59 0 (e_un n_59_0) := u_ldAT f_l7_eq (s_aload (i := .aload 7) (len := 2) hq_59 (by decide +kernel) rfl (.inl ⟨rfl, rfl⟩) : e_Sn 59 0 (o_load e_okR 7 2)) t_59_2
noncomputable def e_tb_59 : e_X := (e_br 16 (e_lf 0 (e_un n_59_0)) (e_lf 16 (e_un n_59_16)))
theorem e_tk_59 : e_Tb 59 e_tb_59 := (e_brT (e_lfT t_59_0) (e_lfT t_59_16))
theorem hq_60 : (e_ml[60]?).map (·.2.1) = some method_3_code := Eq.trans (congrArg (Option.map (fun e => e.2.1)) hy_60) rfl
theorem ho_60 : (e_ml[60]?).map (·.1.cls) = some "PlateroomprinterLaw" := Eq.trans (congrArg (Option.map (fun e => e.1.cls)) hy_60) rfl
theorem hr_60 : (e_ml[60]?).map (·.2.2.2) = some (some .int) := Eq.trans (congrArg (Option.map (fun e => e.2.2.2)) hy_60) rfl
noncomputable def n_60_22 : e_Y := u_retI
theorem t_60_22 : e_Sn 60 22 (e_un n_60_22) := u_retIT (s_iret hq_60 hr_60 (by decide +kernel) : e_Sn 60 22 (o_ret e_okI))
noncomputable def n_60_21 : e_Y := u_push (.inl 2147483648) n_60_22
theorem t_60_21 : e_Sn 60 21 (e_un n_60_21) := u_pushT (s_iconst (n := (0)) hq_60 (by decide +kernel) rfl ⟨by decide +kernel, by decide +kernel⟩ : e_Sn 60 21 (o_push (.inl 2147483648) 22)) t_60_22
noncomputable def n_60_10 : e_Y := n_60_21
theorem t_60_10 : e_Sn 60 10 (e_un n_60_10) := u_gotoT (s_goto (off := (11)) hq_60 (by decide +kernel) rfl : e_Sn 60 10 (o_goto 21)) t_60_21
noncomputable def n_60_9 : e_Y := u_old (o_ast 2 e_okL 10) n_60_10
theorem t_60_9 : e_Sn 60 9 (e_un n_60_9) := u_oldT (s_last hq_60 (by decide +kernel) rfl : e_Sn 60 9 (o_ast 2 e_okL 10)) t_60_10 (e_cg_ast 2 e_okL)
noncomputable def n_60_8 : e_Y := u_old (o_i2l 9) n_60_9
theorem t_60_8 : e_Sn 60 8 (e_un n_60_8) := u_oldT (s_i2l hq_60 (by decide +kernel) rfl : e_Sn 60 8 (o_i2l 9)) t_60_9 e_congr_i2l
noncomputable def n_60_5 : e_Y := u_tab (o_callVX (e_s1 0 6 3) 3 8 [(0, 13), (1, 17)])
theorem t_60_5 : e_Sn 60 5 (e_un n_60_5) := u_tabT (s_callVX (ci := 0) (C := er_0) (T := et_0) (N := 17) (index := 7) hq_60 ho_60 hy_6 hp_6 hc_6 hi_6 hd_6 (r_k6 (List.mem_of_getElem? (i := 229) (by decide +kernel))) hs_6 (r_k6 (List.mem_of_getElem? (i := 231) (by decide +kernel))) rfl (by decide +kernel) rfl hy_60 hc_60 (e_hc2 rfl rfl (by decide) r_m_6_227 r_m_5_199 rfl rfl (by decide) r_m_6_228 r_m_6_239 (by simp [e_nc])) : e_Sn 60 5 (o_callVX (e_s1 0 6 3) 3 8 [(0, 13), (1, 17)]))
noncomputable def n_60_4 : e_Y := u_ld f_okI f_l2 n_60_5
theorem t_60_4 : e_Sn 60 4 (e_un n_60_4) := u_ldIT f_l2_eq (s_iload (i := .iload_n 2) (len := 1) hq_60 (by decide +kernel) rfl (.inr ⟨2, rfl, rfl, rfl⟩) : e_Sn 60 4 (o_load e_okI 2 5)) t_60_5
noncomputable def n_60_3 : e_Y := u_ld f_okI f_l1 n_60_4
theorem t_60_3 : e_Sn 60 3 (e_un n_60_3) := u_ldIT f_l1_eq (s_iload (i := .iload_n 1) (len := 1) hq_60 (by decide +kernel) rfl (.inr ⟨1, rfl, rfl, rfl⟩) : e_Sn 60 3 (o_load e_okI 1 4)) t_60_4
noncomputable def n_60_2 : e_Y := u_ld f_okA f_l0 n_60_3
theorem t_60_2 : e_Sn 60 2 (e_un n_60_2) := u_ldAT f_l0_eq (s_aload (i := .aload_n 0) (len := 1) hq_60 (by decide +kernel) rfl (.inr ⟨0, rfl, rfl, rfl⟩) : e_Sn 60 2 (o_load e_okR 0 3)) t_60_3
noncomputable def n_60_1 : e_Y := u_push (.inl 2147483648) n_60_2
theorem t_60_1 : e_Sn 60 1 (e_un n_60_1) := u_pushT (s_iconst (n := (0)) hq_60 (by decide +kernel) rfl ⟨by decide +kernel, by decide +kernel⟩ : e_Sn 60 1 (o_push (.inl 2147483648) 2)) t_60_2
noncomputable def n_60_0 : e_Y := u_ld f_okA f_l3 n_60_1
theorem t_60_0 : e_Sn 60 0 (e_un n_60_0) := u_ldAT f_l3_eq (s_aload (i := .aload_n 3) (len := 1) hq_60 (by decide +kernel) rfl (.inr ⟨3, rfl, rfl, rfl⟩) : e_Sn 60 0 (o_load e_okR 3 1)) t_60_1
noncomputable def e_tb_60 : e_X := (e_br 8 (e_lf 0 (e_un n_60_0)) (e_lf 8 (e_un n_60_8)))
theorem e_tk_60 : e_Tb 60 e_tb_60 := (e_brT (e_lfT t_60_0) (e_lfT t_60_8))
theorem hq_103 : (e_ml[103]?).map (·.2.1) = some prog_48_method_1_code := Eq.trans (congrArg (Option.map (fun e => e.2.1)) hy_103) rfl
theorem ho_103 : (e_ml[103]?).map (·.1.cls) = some "java/util/AbstractCollection" := Eq.trans (congrArg (Option.map (fun e => e.1.cls)) hy_103) rfl
theorem hr_103 : (e_ml[103]?).map (·.2.2.2) = some none := Eq.trans (congrArg (Option.map (fun e => e.2.2.2)) hy_103) rfl
noncomputable def n_103_4 : e_Y := u_retV
theorem t_103_4 : e_Sn 103 4 (e_un n_103_4) := u_retVT (s_vret hq_103 hr_103 (by decide +kernel) : e_Sn 103 4 (o_retv))
noncomputable def n_103_1 : e_Y := u_tab (o_oinit 4)
theorem t_103_1 : e_Sn 103 1 (e_un n_103_1) := u_tabT (s_oinit (idx := 1) hq_103 ho_103 (r_k7 (List.mem_of_getElem? (i := 184) (by decide +kernel))) r_m_1_53 r_m_1_54 (by decide +kernel) rfl : e_Sn 103 1 (o_oinit 4))
noncomputable def n_103_0 : e_Y := u_ld f_okA f_l0 n_103_1
theorem t_103_0 : e_Sn 103 0 (e_un n_103_0) := u_ldAT f_l0_eq (s_aload (i := .aload_n 0) (len := 1) hq_103 (by decide +kernel) rfl (.inr ⟨0, rfl, rfl, rfl⟩) : e_Sn 103 0 (o_load e_okR 0 1)) t_103_1
noncomputable def e_tb_103 : e_X := (e_br 4 (e_lf 0 (e_un n_103_0)) (e_lf 4 (e_un n_103_4)))
theorem e_tk_103 : e_Tb 103 e_tb_103 := (e_brT (e_lfT t_103_0) (e_lfT t_103_4))
theorem hq_104 : (e_ml[104]?).map (·.2.1) = some prog_49_method_1_code := Eq.trans (congrArg (Option.map (fun e => e.2.1)) hy_104) rfl
theorem ho_104 : (e_ml[104]?).map (·.1.cls) = some "java/util/AbstractList" := Eq.trans (congrArg (Option.map (fun e => e.1.cls)) hy_104) rfl
theorem hr_104 : (e_ml[104]?).map (·.2.2.2) = some none := Eq.trans (congrArg (Option.map (fun e => e.2.2.2)) hy_104) rfl
noncomputable def n_104_9 : e_Y := u_retV
theorem t_104_9 : e_Sn 104 9 (e_un n_104_9) := u_retVT (s_vret hq_104 hr_104 (by decide +kernel) : e_Sn 104 9 (o_retv))
noncomputable def n_104_6 : e_Y := u_putf 19 2 f_okI (u_old (o_putf (e_f1 19 2) e_okI 9) n_104_9) n_104_9
theorem t_104_6 : e_Sn 104 6 (e_un n_104_6) := u_putfT (fun _ => f_okI_eq) (s_putf (ty0 := ey_19) (ok := e_okI) (C := er_19) (T := et_19) (N := 3) (ref := "java/util/AbstractList") (index := 7) (ci := 19) (k := 2) hq_104 ho_104 ⟨rfl, by decide, ei_19, (r_k7 (List.mem_of_getElem? (i := 191) (by decide +kernel))), .inl rfl⟩ eo_19 en_19 e_oksI (.inl rfl) (by decide +kernel) rfl : e_Sn 104 6 (o_putf (e_f1 19 2) e_okI 9)) t_104_9
noncomputable def n_104_5 : e_Y := u_push (.inl 2147483648) n_104_6
theorem t_104_5 : e_Sn 104 5 (e_un n_104_5) := u_pushT (s_iconst (n := (0)) hq_104 (by decide +kernel) rfl ⟨by decide +kernel, by decide +kernel⟩ : e_Sn 104 5 (o_push (.inl 2147483648) 6)) t_104_6
noncomputable def n_104_4 : e_Y := u_ld f_okA f_l0 n_104_5
theorem t_104_4 : e_Sn 104 4 (e_un n_104_4) := u_ldAT f_l0_eq (s_aload (i := .aload_n 0) (len := 1) hq_104 (by decide +kernel) rfl (.inr ⟨0, rfl, rfl, rfl⟩) : e_Sn 104 4 (o_load e_okR 0 5)) t_104_5
noncomputable def n_104_1 : e_Y := u_callI 103 1 20 1 n_103_0 n_104_4
theorem t_104_1 : e_Sn 104 1 (e_un n_104_1) := u_callIT rfl (s_callI (index := 1) hq_104 ho_104 hy_103 hp_103 hc_103 hi_103 hd_103 (r_k7 (List.mem_of_getElem? (i := 181) (by decide +kernel))) rfl rfl hs_103 (by decide +kernel) rfl : e_Sn 104 1 (o_callI 103 1 1 4)) t_103_0 t_104_4
noncomputable def n_104_0 : e_Y := u_ld f_okA f_l0 n_104_1
theorem t_104_0 : e_Sn 104 0 (e_un n_104_0) := u_ldAT f_l0_eq (s_aload (i := .aload_n 0) (len := 1) hq_104 (by decide +kernel) rfl (.inr ⟨0, rfl, rfl, rfl⟩) : e_Sn 104 0 (o_load e_okR 0 1)) t_104_1
noncomputable def e_tb_104 : e_X := (e_lf 0 (e_un n_104_0))
theorem e_tk_104 : e_Tb 104 e_tb_104 := (e_lfT t_104_0)
theorem hq_105 : (e_ml[105]?).map (·.2.1) = some prog_50_method_2_code := Eq.trans (congrArg (Option.map (fun e => e.2.1)) hy_105) rfl
theorem ho_105 : (e_ml[105]?).map (·.1.cls) = some "java/util/ArrayList" := Eq.trans (congrArg (Option.map (fun e => e.1.cls)) hy_105) rfl
theorem hr_105 : (e_ml[105]?).map (·.2.2.2) = some none := Eq.trans (congrArg (Option.map (fun e => e.2.2.2)) hy_105) rfl
noncomputable def n_105_11 : e_Y := u_retV
theorem t_105_11 : e_Sn 105 11 (e_un n_105_11) := u_retVT (s_vret hq_105 hr_105 (by decide +kernel) : e_Sn 105 11 (o_retv))
noncomputable def n_105_8 : e_Y := u_putf 19 0 f_okA (u_old (o_putf (e_f1 19 0) e_okR 11) n_105_11) n_105_11
theorem t_105_8 : e_Sn 105 8 (e_un n_105_8) := u_putfT (fun _ => f_okA_eq) (s_putf (ty0 := ey_19) (ok := e_okR) (C := er_19) (T := et_19) (N := 3) (ref := "java/util/ArrayList") (index := 9) (ci := 19) (k := 0) hq_105 ho_105 ⟨rfl, by decide, ei_19, r_m_7_187, .inl rfl⟩ eo_19 en_19 e_oksA (.inl rfl) (by decide +kernel) rfl : e_Sn 105 8 (o_putf (e_f1 19 0) e_okR 11)) t_105_11
noncomputable def n_105_5 : e_Y := u_push (e_B 3) n_105_8
theorem t_105_5 : e_Sn 105 5 (e_un n_105_5) := u_pushT (s_gets (k := 3) (index := 39) (C := "java/util/ArrayList") (f := "DEFAULTCAPACITY_EMPTY_ELEMENTDATA") (d := "[Ljava/lang/Object;") hq_105 ho_105 r_m_7_185 (by simp [e_sv]) (by decide +kernel) rfl : e_Sn 105 5 (o_push (e_B 3) 8)) t_105_8
noncomputable def n_105_4 : e_Y := u_ld f_okA f_l0 n_105_5
theorem t_105_4 : e_Sn 105 4 (e_un n_105_4) := u_ldAT f_l0_eq (s_aload (i := .aload_n 0) (len := 1) hq_105 (by decide +kernel) rfl (.inr ⟨0, rfl, rfl, rfl⟩) : e_Sn 105 4 (o_load e_okR 0 5)) t_105_5
noncomputable def n_105_1 : e_Y := u_callI 104 1 20 1 n_104_0 n_105_4
theorem t_105_1 : e_Sn 105 1 (e_un n_105_1) := u_callIT rfl (s_callI (index := 1) hq_105 ho_105 hy_104 hp_104 hc_104 hi_104 hd_104 (r_k7 (List.mem_of_getElem? (i := 178) (by decide +kernel))) rfl rfl hs_104 (by decide +kernel) rfl : e_Sn 105 1 (o_callI 104 1 1 4)) t_104_0 t_105_4
noncomputable def n_105_0 : e_Y := u_ld f_okA f_l0 n_105_1
theorem t_105_0 : e_Sn 105 0 (e_un n_105_0) := u_ldAT f_l0_eq (s_aload (i := .aload_n 0) (len := 1) hq_105 (by decide +kernel) rfl (.inr ⟨0, rfl, rfl, rfl⟩) : e_Sn 105 0 (o_load e_okR 0 1)) t_105_1
noncomputable def e_tb_105 : e_X := (e_lf 0 (e_un n_105_0))
theorem e_tk_105 : e_Tb 105 e_tb_105 := (e_lfT t_105_0)
theorem hq_99 : (e_ml[99]?).map (·.2.1) = some prog_21_method_1_code := Eq.trans (congrArg (Option.map (fun e => e.2.1)) hy_99) rfl
theorem ho_99 : (e_ml[99]?).map (·.1.cls) = some "PlateroomprinterModel$State" := Eq.trans (congrArg (Option.map (fun e => e.1.cls)) hy_99) rfl
theorem hr_99 : (e_ml[99]?).map (·.2.2.2) = some none := Eq.trans (congrArg (Option.map (fun e => e.2.2.2)) hy_99) rfl
noncomputable def n_99_157 : e_Y := u_retV
theorem t_99_157 : e_Sn 99 157 (e_un n_99_157) := u_retVT (s_vret hq_99 hr_99 (by decide +kernel) : e_Sn 99 157 (o_retv))
noncomputable def n_99_154 : e_Y := (u_at 135)
theorem t_99_154 : e_Sn 99 154 (e_un n_99_154) := u_gotoT (s_goto (off := (-19)) hq_99 (by decide +kernel) rfl : e_Sn 99 154 (o_goto 135)) u_atT
noncomputable def n_99_151 : e_Y := u_inc f_l1 f_s1 1 n_99_154
theorem t_99_151 : e_Sn 99 151 (e_un n_99_151) := u_incT f_l1_eq (fun _ _ _ => f_s1_eq) (s_iinc (zz := (1)) hq_99 (by decide +kernel) rfl (by decide +kernel) ⟨by decide, by decide⟩ : e_Sn 99 151 (o_iinc 1 1 154)) t_99_154
noncomputable def n_99_150 : e_Y := u_old (o_ast 1 e_okZ 151) n_99_151
theorem t_99_150 : e_Sn 99 150 (e_un n_99_150) := u_oldT (s_zast hq_99 (by decide +kernel) rfl : e_Sn 99 150 (o_ast 1 e_okZ 151)) t_99_151 (e_cg_ast 1 e_okZ)
noncomputable def n_99_149 : e_Y := u_push (.inl 2147483649) n_99_150
theorem t_99_149 : e_Sn 99 149 (e_un n_99_149) := u_pushT (s_iconst (n := (1)) hq_99 (by decide +kernel) rfl ⟨by decide +kernel, by decide +kernel⟩ : e_Sn 99 149 (o_push (.inl 2147483649) 150)) t_99_150
noncomputable def n_99_148 : e_Y := u_ld f_okI f_l1 n_99_149
theorem t_99_148 : e_Sn 99 148 (e_un n_99_148) := u_ldIT f_l1_eq (s_iload (i := .iload_n 1) (len := 1) hq_99 (by decide +kernel) rfl (.inr ⟨1, rfl, rfl, rfl⟩) : e_Sn 99 148 (o_load e_okI 1 149)) t_99_149
noncomputable def n_99_145 : e_Y := u_getf 17 3 (u_old (o_getf (e_f1 17 3) 148) n_99_148) n_99_148
theorem t_99_145 : e_Sn 99 145 (e_un n_99_145) := u_getfT (s_getf (C := er_17) (T := et_17) (N := 6) (ref := "PlateroomprinterModel$State") (index := 22) (ci := 17) (k := 3) hq_99 ho_99 ⟨rfl, by decide, ei_17, r_m_7_220, .inl rfl⟩ (by decide +kernel) rfl : e_Sn 99 145 (o_getf (e_f1 17 3) 148)) t_99_148
noncomputable def n_99_144 : e_Y := u_ld f_okA f_l0 n_99_145
theorem t_99_144 : e_Sn 99 144 (e_un n_99_144) := u_ldAT f_l0_eq (s_aload (i := .aload_n 0) (len := 1) hq_99 (by decide +kernel) rfl (.inr ⟨0, rfl, rfl, rfl⟩) : e_Sn 99 144 (o_load e_okR 0 145)) t_99_145
noncomputable def n_99_141 : e_Y := u_jmp y_ge (u_old2 (o_clt 144 157) 144 n_99_144 n_99_157) n_99_144 n_99_157
theorem t_99_141 : e_Sn 99 141 (e_un n_99_141) := u_cltT rfl (s_cge (off := (16)) hq_99 (by decide +kernel) rfl rfl : e_Sn 99 141 (o_clt 144 157)) t_99_144 t_99_157
noncomputable def n_99_140 : e_Y := u_old (o_alen e_fcs 141) n_99_141
theorem t_99_140 : e_Sn 99 140 (e_un n_99_140) := u_oldT (s_alen hq_99 (by decide +kernel) rfl : e_Sn 99 140 (o_alen e_fcs 141)) t_99_141 (e_cg_alen e_fcs)
noncomputable def n_99_137 : e_Y := u_getf 17 3 (u_old (o_getf (e_f1 17 3) 140) n_99_140) n_99_140
theorem t_99_137 : e_Sn 99 137 (e_un n_99_137) := u_getfT (s_getf (C := er_17) (T := et_17) (N := 6) (ref := "PlateroomprinterModel$State") (index := 22) (ci := 17) (k := 3) hq_99 ho_99 ⟨rfl, by decide, ei_17, r_m_7_220, .inl rfl⟩ (by decide +kernel) rfl : e_Sn 99 137 (o_getf (e_f1 17 3) 140)) t_99_140
noncomputable def n_99_136 : e_Y := u_ld f_okA f_l0 n_99_137
theorem t_99_136 : e_Sn 99 136 (e_un n_99_136) := u_ldAT f_l0_eq (s_aload (i := .aload_n 0) (len := 1) hq_99 (by decide +kernel) rfl (.inr ⟨0, rfl, rfl, rfl⟩) : e_Sn 99 136 (o_load e_okR 0 137)) t_99_137
noncomputable def n_99_135 : e_Y := u_ld f_okI f_l1 n_99_136
theorem t_99_135 : e_Sn 99 135 (e_un n_99_135) := u_ldIT f_l1_eq (s_iload (i := .iload_n 1) (len := 1) hq_99 (by decide +kernel) rfl (.inr ⟨1, rfl, rfl, rfl⟩) : e_Sn 99 135 (o_load e_okI 1 136)) t_99_136
noncomputable def n_99_134 : e_Y := u_st f_okI f_s1 n_99_135
theorem t_99_134 : e_Sn 99 134 (e_un n_99_134) := u_stIT (fun _ _ _ => f_s1_eq) (s_istore (i := .istore_n 1) (len := 1) hq_99 (by decide +kernel) rfl (.inr ⟨1, rfl, rfl, rfl⟩) : e_Sn 99 134 (o_store e_okI 1 135)) t_99_135
noncomputable def n_99_133 : e_Y := u_push (.inl 2147483648) n_99_134
theorem t_99_133 : e_Sn 99 133 (e_un n_99_133) := u_pushT (s_iconst (n := (0)) hq_99 (by decide +kernel) rfl ⟨by decide +kernel, by decide +kernel⟩ : e_Sn 99 133 (o_push (.inl 2147483648) 134)) t_99_134
noncomputable def n_99_130 : e_Y := u_putf 17 5 f_okA (u_old (o_putf (e_f1 17 5) e_okR 133) n_99_133) n_99_133
theorem t_99_130 : e_Sn 99 130 (e_un n_99_130) := u_putfT (fun _ => f_okA_eq) (s_putf (ty0 := ey_17) (ok := e_okR) (C := er_17) (T := et_17) (N := 6) (ref := "PlateroomprinterModel$State") (index := 30) (ci := 17) (k := 5) hq_99 ho_99 ⟨rfl, by decide, ei_17, r_m_7_226, .inl rfl⟩ eo_17 en_17 e_oksA (.inl rfl) (by decide +kernel) rfl : e_Sn 99 130 (o_putf (e_f1 17 5) e_okR 133)) t_99_133
noncomputable def n_99_129 : e_Y := u_ast 0 f_okI (u_old (o_ast 0 e_okI 130) n_99_130) n_99_130
theorem t_99_129 : e_Sn 99 129 (e_un n_99_129) := u_astT (fun _ => f_okI_eq) (s_iast hq_99 (by decide +kernel) rfl : e_Sn 99 129 (o_ast 0 e_okI 130)) t_99_130
noncomputable def n_99_128 : e_Y := u_push (.inl 2147483649) n_99_129
theorem t_99_128 : e_Sn 99 128 (e_un n_99_128) := u_pushT (s_iconst (n := (1)) hq_99 (by decide +kernel) rfl ⟨by decide +kernel, by decide +kernel⟩ : e_Sn 99 128 (o_push (.inl 2147483649) 129)) t_99_129
noncomputable def n_99_127 : e_Y := u_push (.inl 2147483651) n_99_128
theorem t_99_127 : e_Sn 99 127 (e_un n_99_127) := u_pushT (s_iconst (n := (3)) hq_99 (by decide +kernel) rfl ⟨by decide +kernel, by decide +kernel⟩ : e_Sn 99 127 (o_push (.inl 2147483651) 128)) t_99_128
noncomputable def n_99_126 : e_Y := u_old (o_dup 127) n_99_127
theorem t_99_126 : e_Sn 99 126 (e_un n_99_126) := u_oldT (s_dup hq_99 (by decide +kernel) rfl : e_Sn 99 126 (o_dup 127)) t_99_127 e_cg_dup
noncomputable def n_99_125 : e_Y := u_ast 0 f_okI (u_old (o_ast 0 e_okI 126) n_99_126) n_99_126
theorem t_99_125 : e_Sn 99 125 (e_un n_99_125) := u_astT (fun _ => f_okI_eq) (s_iast hq_99 (by decide +kernel) rfl : e_Sn 99 125 (o_ast 0 e_okI 126)) t_99_126
noncomputable def n_99_124 : e_Y := u_push (.inl 2147483648) n_99_125
theorem t_99_124 : e_Sn 99 124 (e_un n_99_124) := u_pushT (s_iconst (n := (0)) hq_99 (by decide +kernel) rfl ⟨by decide +kernel, by decide +kernel⟩ : e_Sn 99 124 (o_push (.inl 2147483648) 125)) t_99_125
noncomputable def n_99_123 : e_Y := u_push (.inl 2147483650) n_99_124
theorem t_99_123 : e_Sn 99 123 (e_un n_99_123) := u_pushT (s_iconst (n := (2)) hq_99 (by decide +kernel) rfl ⟨by decide +kernel, by decide +kernel⟩ : e_Sn 99 123 (o_push (.inl 2147483650) 124)) t_99_124
noncomputable def n_99_122 : e_Y := u_old (o_dup 123) n_99_123
theorem t_99_122 : e_Sn 99 122 (e_un n_99_122) := u_oldT (s_dup hq_99 (by decide +kernel) rfl : e_Sn 99 122 (o_dup 123)) t_99_123 e_cg_dup
noncomputable def n_99_121 : e_Y := u_ast 0 f_okI (u_old (o_ast 0 e_okI 122) n_99_122) n_99_122
theorem t_99_121 : e_Sn 99 121 (e_un n_99_121) := u_astT (fun _ => f_okI_eq) (s_iast hq_99 (by decide +kernel) rfl : e_Sn 99 121 (o_ast 0 e_okI 122)) t_99_122
noncomputable def n_99_120 : e_Y := u_push (.inl 2147483648) n_99_121
theorem t_99_120 : e_Sn 99 120 (e_un n_99_120) := u_pushT (s_iconst (n := (0)) hq_99 (by decide +kernel) rfl ⟨by decide +kernel, by decide +kernel⟩ : e_Sn 99 120 (o_push (.inl 2147483648) 121)) t_99_121
noncomputable def n_99_119 : e_Y := u_push (.inl 2147483649) n_99_120
theorem t_99_119 : e_Sn 99 119 (e_un n_99_119) := u_pushT (s_iconst (n := (1)) hq_99 (by decide +kernel) rfl ⟨by decide +kernel, by decide +kernel⟩ : e_Sn 99 119 (o_push (.inl 2147483649) 120)) t_99_120
noncomputable def n_99_118 : e_Y := u_old (o_dup 119) n_99_119
theorem t_99_118 : e_Sn 99 118 (e_un n_99_118) := u_oldT (s_dup hq_99 (by decide +kernel) rfl : e_Sn 99 118 (o_dup 119)) t_99_119 e_cg_dup
noncomputable def n_99_117 : e_Y := u_ast 0 f_okI (u_old (o_ast 0 e_okI 118) n_99_118) n_99_118
theorem t_99_117 : e_Sn 99 117 (e_un n_99_117) := u_astT (fun _ => f_okI_eq) (s_iast hq_99 (by decide +kernel) rfl : e_Sn 99 117 (o_ast 0 e_okI 118)) t_99_118
noncomputable def n_99_116 : e_Y := u_push (.inl 2147483649) n_99_117
theorem t_99_116 : e_Sn 99 116 (e_un n_99_116) := u_pushT (s_iconst (n := (1)) hq_99 (by decide +kernel) rfl ⟨by decide +kernel, by decide +kernel⟩ : e_Sn 99 116 (o_push (.inl 2147483649) 117)) t_99_117
noncomputable def n_99_115 : e_Y := u_push (.inl 2147483648) n_99_116
theorem t_99_115 : e_Sn 99 115 (e_un n_99_115) := u_pushT (s_iconst (n := (0)) hq_99 (by decide +kernel) rfl ⟨by decide +kernel, by decide +kernel⟩ : e_Sn 99 115 (o_push (.inl 2147483648) 116)) t_99_116
noncomputable def n_99_114 : e_Y := u_old (o_dup 115) n_99_115
theorem t_99_114 : e_Sn 99 114 (e_un n_99_114) := u_oldT (s_dup hq_99 (by decide +kernel) rfl : e_Sn 99 114 (o_dup 115)) t_99_115 e_cg_dup
noncomputable def n_99_112 : e_Y := u_tab (o_newa 0 (e_I 2147483648) 114)
theorem t_99_112 : e_Sn 99 112 (e_un n_99_112) := u_tabT (s_newI r_m_1_78 hq_99 (by decide +kernel) rfl : e_Sn 99 112 (o_newa 0 (e_I 2147483648) 114))
noncomputable def n_99_111 : e_Y := u_push (.inl 2147483652) n_99_112
theorem t_99_111 : e_Sn 99 111 (e_un n_99_111) := u_pushT (s_iconst (n := (4)) hq_99 (by decide +kernel) rfl ⟨by decide +kernel, by decide +kernel⟩ : e_Sn 99 111 (o_push (.inl 2147483652) 112)) t_99_112
noncomputable def n_99_110 : e_Y := u_ld f_okA f_l0 n_99_111
theorem t_99_110 : e_Sn 99 110 (e_un n_99_110) := u_ldAT f_l0_eq (s_aload (i := .aload_n 0) (len := 1) hq_99 (by decide +kernel) rfl (.inr ⟨0, rfl, rfl, rfl⟩) : e_Sn 99 110 (o_load e_okR 0 111)) t_99_111
noncomputable def n_99_107 : e_Y := u_putf 17 4 f_okA (u_old (o_putf (e_f1 17 4) e_okR 110) n_99_110) n_99_110
theorem t_99_107 : e_Sn 99 107 (e_un n_99_107) := u_putfT (fun _ => f_okA_eq) (s_putf (ty0 := ey_17) (ok := e_okR) (C := er_17) (T := et_17) (N := 6) (ref := "PlateroomprinterModel$State") (index := 26) (ci := 17) (k := 4) hq_99 ho_99 ⟨rfl, by decide, ei_17, r_m_7_223, .inl rfl⟩ eo_17 en_17 e_oksA (.inl rfl) (by decide +kernel) rfl : e_Sn 99 107 (o_putf (e_f1 17 4) e_okR 110)) t_99_110
noncomputable def n_99_106 : e_Y := u_ast 0 f_okI (u_old (o_ast 0 e_okI 107) n_99_107) n_99_107
theorem t_99_106 : e_Sn 99 106 (e_un n_99_106) := u_astT (fun _ => f_okI_eq) (s_iast hq_99 (by decide +kernel) rfl : e_Sn 99 106 (o_ast 0 e_okI 107)) t_99_107
noncomputable def n_99_104 : e_Y := u_push (.inl 2147483664) n_99_106
theorem t_99_104 : e_Sn 99 104 (e_un n_99_104) := u_pushT (s_bipush (n := (16)) hq_99 (by decide +kernel) rfl ⟨by decide +kernel, by decide +kernel⟩ : e_Sn 99 104 (o_push (.inl 2147483664) 106)) t_99_106
noncomputable def n_99_103 : e_Y := u_push (.inl 2147483651) n_99_104
theorem t_99_103 : e_Sn 99 103 (e_un n_99_103) := u_pushT (s_iconst (n := (3)) hq_99 (by decide +kernel) rfl ⟨by decide +kernel, by decide +kernel⟩ : e_Sn 99 103 (o_push (.inl 2147483651) 104)) t_99_104
noncomputable def n_99_102 : e_Y := u_old (o_dup 103) n_99_103
theorem t_99_102 : e_Sn 99 102 (e_un n_99_102) := u_oldT (s_dup hq_99 (by decide +kernel) rfl : e_Sn 99 102 (o_dup 103)) t_99_103 e_cg_dup
noncomputable def n_99_101 : e_Y := u_ast 0 f_okI (u_old (o_ast 0 e_okI 102) n_99_102) n_99_102
theorem t_99_101 : e_Sn 99 101 (e_un n_99_101) := u_astT (fun _ => f_okI_eq) (s_iast hq_99 (by decide +kernel) rfl : e_Sn 99 101 (o_ast 0 e_okI 102)) t_99_102
noncomputable def n_99_100 : e_Y := u_push (.inl 2147483648) n_99_101
theorem t_99_100 : e_Sn 99 100 (e_un n_99_100) := u_pushT (s_iconst (n := (0)) hq_99 (by decide +kernel) rfl ⟨by decide +kernel, by decide +kernel⟩ : e_Sn 99 100 (o_push (.inl 2147483648) 101)) t_99_101
noncomputable def n_99_99 : e_Y := u_push (.inl 2147483650) n_99_100
theorem t_99_99 : e_Sn 99 99 (e_un n_99_99) := u_pushT (s_iconst (n := (2)) hq_99 (by decide +kernel) rfl ⟨by decide +kernel, by decide +kernel⟩ : e_Sn 99 99 (o_push (.inl 2147483650) 100)) t_99_100
noncomputable def n_99_98 : e_Y := u_old (o_dup 99) n_99_99
theorem t_99_98 : e_Sn 99 98 (e_un n_99_98) := u_oldT (s_dup hq_99 (by decide +kernel) rfl : e_Sn 99 98 (o_dup 99)) t_99_99 e_cg_dup
noncomputable def n_99_97 : e_Y := u_ast 0 f_okI (u_old (o_ast 0 e_okI 98) n_99_98) n_99_98
theorem t_99_97 : e_Sn 99 97 (e_un n_99_97) := u_astT (fun _ => f_okI_eq) (s_iast hq_99 (by decide +kernel) rfl : e_Sn 99 97 (o_ast 0 e_okI 98)) t_99_98
noncomputable def n_99_96 : e_Y := u_push (.inl 2147483648) n_99_97
theorem t_99_96 : e_Sn 99 96 (e_un n_99_96) := u_pushT (s_iconst (n := (0)) hq_99 (by decide +kernel) rfl ⟨by decide +kernel, by decide +kernel⟩ : e_Sn 99 96 (o_push (.inl 2147483648) 97)) t_99_97
noncomputable def n_99_95 : e_Y := u_push (.inl 2147483649) n_99_96
theorem t_99_95 : e_Sn 99 95 (e_un n_99_95) := u_pushT (s_iconst (n := (1)) hq_99 (by decide +kernel) rfl ⟨by decide +kernel, by decide +kernel⟩ : e_Sn 99 95 (o_push (.inl 2147483649) 96)) t_99_96
noncomputable def n_99_94 : e_Y := u_old (o_dup 95) n_99_95
theorem t_99_94 : e_Sn 99 94 (e_un n_99_94) := u_oldT (s_dup hq_99 (by decide +kernel) rfl : e_Sn 99 94 (o_dup 95)) t_99_95 e_cg_dup
noncomputable def n_99_93 : e_Y := u_ast 0 f_okI (u_old (o_ast 0 e_okI 94) n_99_94) n_99_94
theorem t_99_93 : e_Sn 99 93 (e_un n_99_93) := u_astT (fun _ => f_okI_eq) (s_iast hq_99 (by decide +kernel) rfl : e_Sn 99 93 (o_ast 0 e_okI 94)) t_99_94
noncomputable def n_99_92 : e_Y := u_push (.inl 2147483648) n_99_93
theorem t_99_92 : e_Sn 99 92 (e_un n_99_92) := u_pushT (s_iconst (n := (0)) hq_99 (by decide +kernel) rfl ⟨by decide +kernel, by decide +kernel⟩ : e_Sn 99 92 (o_push (.inl 2147483648) 93)) t_99_93
noncomputable def n_99_91 : e_Y := u_push (.inl 2147483648) n_99_92
theorem t_99_91 : e_Sn 99 91 (e_un n_99_91) := u_pushT (s_iconst (n := (0)) hq_99 (by decide +kernel) rfl ⟨by decide +kernel, by decide +kernel⟩ : e_Sn 99 91 (o_push (.inl 2147483648) 92)) t_99_92
noncomputable def n_99_90 : e_Y := u_old (o_dup 91) n_99_91
theorem t_99_90 : e_Sn 99 90 (e_un n_99_90) := u_oldT (s_dup hq_99 (by decide +kernel) rfl : e_Sn 99 90 (o_dup 91)) t_99_91 e_cg_dup
noncomputable def n_99_88 : e_Y := u_tab (o_newa 0 (e_I 2147483648) 90)
theorem t_99_88 : e_Sn 99 88 (e_un n_99_88) := u_tabT (s_newI r_m_1_78 hq_99 (by decide +kernel) rfl : e_Sn 99 88 (o_newa 0 (e_I 2147483648) 90))
noncomputable def n_99_87 : e_Y := u_push (.inl 2147483652) n_99_88
theorem t_99_87 : e_Sn 99 87 (e_un n_99_87) := u_pushT (s_iconst (n := (4)) hq_99 (by decide +kernel) rfl ⟨by decide +kernel, by decide +kernel⟩ : e_Sn 99 87 (o_push (.inl 2147483652) 88)) t_99_88
noncomputable def n_99_86 : e_Y := u_ld f_okA f_l0 n_99_87
theorem t_99_86 : e_Sn 99 86 (e_un n_99_86) := u_ldAT f_l0_eq (s_aload (i := .aload_n 0) (len := 1) hq_99 (by decide +kernel) rfl (.inr ⟨0, rfl, rfl, rfl⟩) : e_Sn 99 86 (o_load e_okR 0 87)) t_99_87
noncomputable def n_99_83 : e_Y := u_putf 17 3 f_okA (u_old (o_putf (e_f1 17 3) e_okR 86) n_99_86) n_99_86
theorem t_99_83 : e_Sn 99 83 (e_un n_99_83) := u_putfT (fun _ => f_okA_eq) (s_putf (ty0 := ey_17) (ok := e_okR) (C := er_17) (T := et_17) (N := 6) (ref := "PlateroomprinterModel$State") (index := 22) (ci := 17) (k := 3) hq_99 ho_99 ⟨rfl, by decide, ei_17, r_m_7_220, .inl rfl⟩ eo_17 en_17 e_oksA (.inl rfl) (by decide +kernel) rfl : e_Sn 99 83 (o_putf (e_f1 17 3) e_okR 86)) t_99_86
noncomputable def n_99_81 : e_Y := u_tab (o_newa 1 (e_I 2147483648) 83)
theorem t_99_81 : e_Sn 99 81 (e_un n_99_81) := u_tabT (s_newZ r_m_8_2 hq_99 (by decide +kernel) rfl : e_Sn 99 81 (o_newa 1 (e_I 2147483648) 83))
noncomputable def n_99_78 : e_Y := u_push (.inl 2147484672) n_99_81
theorem t_99_78 : e_Sn 99 78 (e_un n_99_78) := u_pushT (s_sipush (n := (1024)) hq_99 (by decide +kernel) rfl ⟨by decide +kernel, by decide +kernel⟩ : e_Sn 99 78 (o_push (.inl 2147484672) 81)) t_99_81
noncomputable def n_99_77 : e_Y := u_ld f_okA f_l0 n_99_78
theorem t_99_77 : e_Sn 99 77 (e_un n_99_77) := u_ldAT f_l0_eq (s_aload (i := .aload_n 0) (len := 1) hq_99 (by decide +kernel) rfl (.inr ⟨0, rfl, rfl, rfl⟩) : e_Sn 99 77 (o_load e_okR 0 78)) t_99_78
noncomputable def n_99_74 : e_Y := u_putf 17 1 f_okA (u_old (o_putf (e_f1 17 1) e_okR 77) n_99_77) n_99_77
theorem t_99_74 : e_Sn 99 74 (e_un n_99_74) := u_putfT (fun _ => f_okA_eq) (s_putf (ty0 := ey_17) (ok := e_okR) (C := er_17) (T := et_17) (N := 6) (ref := "PlateroomprinterModel$State") (index := 18) (ci := 17) (k := 1) hq_99 ho_99 ⟨rfl, by decide, ei_17, r_m_7_214, .inl rfl⟩ eo_17 en_17 e_oksR (.inl rfl) (by decide +kernel) rfl : e_Sn 99 74 (o_putf (e_f1 17 1) e_okR 77)) t_99_77
noncomputable def n_99_71 : e_Y := u_callI 105 1 20 1 n_105_0 n_99_74
theorem t_99_71 : e_Sn 99 71 (e_un n_99_71) := u_callIT rfl (s_callI (index := 17) hq_99 ho_99 hy_105 hp_105 hc_105 hi_105 hd_105 (r_k7 (List.mem_of_getElem? (i := 211) (by decide +kernel))) rfl rfl hs_105 (by decide +kernel) rfl : e_Sn 99 71 (o_callI 105 1 1 74)) t_105_0 t_99_74
noncomputable def n_99_70 : e_Y := u_old (o_dup 71) n_99_71
theorem t_99_70 : e_Sn 99 70 (e_un n_99_70) := u_oldT (s_dup hq_99 (by decide +kernel) rfl : e_Sn 99 70 (o_dup 71)) t_99_71 e_cg_dup
noncomputable def n_99_67 : e_Y := u_tab (o_new 19 3 ef_19 70)
theorem t_99_67 : e_Sn 99 67 (e_un n_99_67) := u_tabT (s_new (index := 15) (ci := 19) (N := 3) (C := er_19) (T := et_19) (ty0 := ey_19) (fv := eg_19) hq_99 ho_99 rfl ei_19 eo_19 (r_k7 (List.mem_of_getElem? (i := 210) (by decide +kernel))) r_m_7_174 r_m_1_18 eh_19 rfl (e_newrel ek_19) (by decide +kernel) rfl : e_Sn 99 67 (o_new 19 3 ef_19 70))
noncomputable def n_99_66 : e_Y := u_ld f_okA f_l0 n_99_67
theorem t_99_66 : e_Sn 99 66 (e_un n_99_66) := u_ldAT f_l0_eq (s_aload (i := .aload_n 0) (len := 1) hq_99 (by decide +kernel) rfl (.inr ⟨0, rfl, rfl, rfl⟩) : e_Sn 99 66 (o_load e_okR 0 67)) t_99_67
noncomputable def n_99_63 : e_Y := u_putf 17 0 f_okA (u_old (o_putf (e_f1 17 0) e_okR 66) n_99_66) n_99_66
theorem t_99_63 : e_Sn 99 63 (e_un n_99_63) := u_putfT (fun _ => f_okA_eq) (s_putf (ty0 := ey_17) (ok := e_okR) (C := er_17) (T := et_17) (N := 6) (ref := "PlateroomprinterModel$State") (index := 9) (ci := 17) (k := 0) hq_99 ho_99 ⟨rfl, by decide, ei_17, r_m_7_212, .inl rfl⟩ eo_17 en_17 e_oksA (.inl rfl) (by decide +kernel) rfl : e_Sn 99 63 (o_putf (e_f1 17 0) e_okR 66)) t_99_66
noncomputable def n_99_62 : e_Y := u_old (o_ast 2 e_okL 63) n_99_63
theorem t_99_62 : e_Sn 99 62 (e_un n_99_62) := u_oldT (s_last hq_99 (by decide +kernel) rfl : e_Sn 99 62 (o_ast 2 e_okL 63)) t_99_63 (e_cg_ast 2 e_okL)
noncomputable def n_99_61 : e_Y := u_push (e_L 9223372036854775809) n_99_62
theorem t_99_61 : e_Sn 99 61 (e_un n_99_61) := u_pushT (s_lconst (n := 1) hq_99 (by decide +kernel) rfl ⟨by decide +kernel, by decide +kernel⟩ : e_Sn 99 61 (o_push (e_L 9223372036854775809) 62)) t_99_62
noncomputable def n_99_59 : e_Y := u_push (.inl 2147483659) n_99_61
theorem t_99_59 : e_Sn 99 59 (e_un n_99_59) := u_pushT (s_bipush (n := (11)) hq_99 (by decide +kernel) rfl ⟨by decide +kernel, by decide +kernel⟩ : e_Sn 99 59 (o_push (.inl 2147483659) 61)) t_99_61
noncomputable def n_99_58 : e_Y := u_old (o_dup 59) n_99_59
theorem t_99_58 : e_Sn 99 58 (e_un n_99_58) := u_oldT (s_dup hq_99 (by decide +kernel) rfl : e_Sn 99 58 (o_dup 59)) t_99_59 e_cg_dup
noncomputable def n_99_57 : e_Y := u_old (o_ast 2 e_okL 58) n_99_58
theorem t_99_57 : e_Sn 99 57 (e_un n_99_57) := u_oldT (s_last hq_99 (by decide +kernel) rfl : e_Sn 99 57 (o_ast 2 e_okL 58)) t_99_58 (e_cg_ast 2 e_okL)
noncomputable def n_99_56 : e_Y := u_push (e_L 9223372036854775808) n_99_57
theorem t_99_56 : e_Sn 99 56 (e_un n_99_56) := u_pushT (s_lconst (n := 0) hq_99 (by decide +kernel) rfl ⟨by decide +kernel, by decide +kernel⟩ : e_Sn 99 56 (o_push (e_L 9223372036854775808) 57)) t_99_57
noncomputable def n_99_54 : e_Y := u_push (.inl 2147483658) n_99_56
theorem t_99_54 : e_Sn 99 54 (e_un n_99_54) := u_pushT (s_bipush (n := (10)) hq_99 (by decide +kernel) rfl ⟨by decide +kernel, by decide +kernel⟩ : e_Sn 99 54 (o_push (.inl 2147483658) 56)) t_99_56
noncomputable def n_99_53 : e_Y := u_old (o_dup 54) n_99_54
theorem t_99_53 : e_Sn 99 53 (e_un n_99_53) := u_oldT (s_dup hq_99 (by decide +kernel) rfl : e_Sn 99 53 (o_dup 54)) t_99_54 e_cg_dup
noncomputable def n_99_52 : e_Y := u_old (o_ast 2 e_okL 53) n_99_53
theorem t_99_52 : e_Sn 99 52 (e_un n_99_52) := u_oldT (s_last hq_99 (by decide +kernel) rfl : e_Sn 99 52 (o_ast 2 e_okL 53)) t_99_53 (e_cg_ast 2 e_okL)
noncomputable def n_99_51 : e_Y := u_push (e_L 9223372036854775809) n_99_52
theorem t_99_51 : e_Sn 99 51 (e_un n_99_51) := u_pushT (s_lconst (n := 1) hq_99 (by decide +kernel) rfl ⟨by decide +kernel, by decide +kernel⟩ : e_Sn 99 51 (o_push (e_L 9223372036854775809) 52)) t_99_52
noncomputable def n_99_49 : e_Y := u_push (.inl 2147483657) n_99_51
theorem t_99_49 : e_Sn 99 49 (e_un n_99_49) := u_pushT (s_bipush (n := (9)) hq_99 (by decide +kernel) rfl ⟨by decide +kernel, by decide +kernel⟩ : e_Sn 99 49 (o_push (.inl 2147483657) 51)) t_99_51
noncomputable def n_99_48 : e_Y := u_old (o_dup 49) n_99_49
theorem t_99_48 : e_Sn 99 48 (e_un n_99_48) := u_oldT (s_dup hq_99 (by decide +kernel) rfl : e_Sn 99 48 (o_dup 49)) t_99_49 e_cg_dup
noncomputable def n_99_47 : e_Y := u_old (o_ast 2 e_okL 48) n_99_48
theorem t_99_47 : e_Sn 99 47 (e_un n_99_47) := u_oldT (s_last hq_99 (by decide +kernel) rfl : e_Sn 99 47 (o_ast 2 e_okL 48)) t_99_48 (e_cg_ast 2 e_okL)
noncomputable def n_99_46 : e_Y := u_push (e_L 9223372036854775808) n_99_47
theorem t_99_46 : e_Sn 99 46 (e_un n_99_46) := u_pushT (s_lconst (n := 0) hq_99 (by decide +kernel) rfl ⟨by decide +kernel, by decide +kernel⟩ : e_Sn 99 46 (o_push (e_L 9223372036854775808) 47)) t_99_47
noncomputable def n_99_44 : e_Y := u_push (.inl 2147483656) n_99_46
theorem t_99_44 : e_Sn 99 44 (e_un n_99_44) := u_pushT (s_bipush (n := (8)) hq_99 (by decide +kernel) rfl ⟨by decide +kernel, by decide +kernel⟩ : e_Sn 99 44 (o_push (.inl 2147483656) 46)) t_99_46
noncomputable def n_99_43 : e_Y := u_old (o_dup 44) n_99_44
theorem t_99_43 : e_Sn 99 43 (e_un n_99_43) := u_oldT (s_dup hq_99 (by decide +kernel) rfl : e_Sn 99 43 (o_dup 44)) t_99_44 e_cg_dup
noncomputable def n_99_42 : e_Y := u_old (o_ast 2 e_okL 43) n_99_43
theorem t_99_42 : e_Sn 99 42 (e_un n_99_42) := u_oldT (s_last hq_99 (by decide +kernel) rfl : e_Sn 99 42 (o_ast 2 e_okL 43)) t_99_43 (e_cg_ast 2 e_okL)
noncomputable def n_99_41 : e_Y := u_push (e_L 9223372036854775809) n_99_42
theorem t_99_41 : e_Sn 99 41 (e_un n_99_41) := u_pushT (s_lconst (n := 1) hq_99 (by decide +kernel) rfl ⟨by decide +kernel, by decide +kernel⟩ : e_Sn 99 41 (o_push (e_L 9223372036854775809) 42)) t_99_42
noncomputable def n_99_39 : e_Y := u_push (.inl 2147483655) n_99_41
theorem t_99_39 : e_Sn 99 39 (e_un n_99_39) := u_pushT (s_bipush (n := (7)) hq_99 (by decide +kernel) rfl ⟨by decide +kernel, by decide +kernel⟩ : e_Sn 99 39 (o_push (.inl 2147483655) 41)) t_99_41
noncomputable def n_99_38 : e_Y := u_old (o_dup 39) n_99_39
theorem t_99_38 : e_Sn 99 38 (e_un n_99_38) := u_oldT (s_dup hq_99 (by decide +kernel) rfl : e_Sn 99 38 (o_dup 39)) t_99_39 e_cg_dup
noncomputable def n_99_37 : e_Y := u_old (o_ast 2 e_okL 38) n_99_38
theorem t_99_37 : e_Sn 99 37 (e_un n_99_37) := u_oldT (s_last hq_99 (by decide +kernel) rfl : e_Sn 99 37 (o_ast 2 e_okL 38)) t_99_38 (e_cg_ast 2 e_okL)
noncomputable def n_99_36 : e_Y := u_push (e_L 9223372036854775809) n_99_37
theorem t_99_36 : e_Sn 99 36 (e_un n_99_36) := u_pushT (s_lconst (n := 1) hq_99 (by decide +kernel) rfl ⟨by decide +kernel, by decide +kernel⟩ : e_Sn 99 36 (o_push (e_L 9223372036854775809) 37)) t_99_37
noncomputable def n_99_34 : e_Y := u_push (.inl 2147483654) n_99_36
theorem t_99_34 : e_Sn 99 34 (e_un n_99_34) := u_pushT (s_bipush (n := (6)) hq_99 (by decide +kernel) rfl ⟨by decide +kernel, by decide +kernel⟩ : e_Sn 99 34 (o_push (.inl 2147483654) 36)) t_99_36
noncomputable def n_99_33 : e_Y := u_old (o_dup 34) n_99_34
theorem t_99_33 : e_Sn 99 33 (e_un n_99_33) := u_oldT (s_dup hq_99 (by decide +kernel) rfl : e_Sn 99 33 (o_dup 34)) t_99_34 e_cg_dup
noncomputable def n_99_32 : e_Y := u_old (o_ast 2 e_okL 33) n_99_33
theorem t_99_32 : e_Sn 99 32 (e_un n_99_32) := u_oldT (s_last hq_99 (by decide +kernel) rfl : e_Sn 99 32 (o_ast 2 e_okL 33)) t_99_33 (e_cg_ast 2 e_okL)
noncomputable def n_99_31 : e_Y := u_push (e_L 9223372036854775809) n_99_32
theorem t_99_31 : e_Sn 99 31 (e_un n_99_31) := u_pushT (s_lconst (n := 1) hq_99 (by decide +kernel) rfl ⟨by decide +kernel, by decide +kernel⟩ : e_Sn 99 31 (o_push (e_L 9223372036854775809) 32)) t_99_32
noncomputable def n_99_30 : e_Y := u_push (.inl 2147483653) n_99_31
theorem t_99_30 : e_Sn 99 30 (e_un n_99_30) := u_pushT (s_iconst (n := (5)) hq_99 (by decide +kernel) rfl ⟨by decide +kernel, by decide +kernel⟩ : e_Sn 99 30 (o_push (.inl 2147483653) 31)) t_99_31
noncomputable def n_99_29 : e_Y := u_old (o_dup 30) n_99_30
theorem t_99_29 : e_Sn 99 29 (e_un n_99_29) := u_oldT (s_dup hq_99 (by decide +kernel) rfl : e_Sn 99 29 (o_dup 30)) t_99_30 e_cg_dup
noncomputable def n_99_28 : e_Y := u_old (o_ast 2 e_okL 29) n_99_29
theorem t_99_28 : e_Sn 99 28 (e_un n_99_28) := u_oldT (s_last hq_99 (by decide +kernel) rfl : e_Sn 99 28 (o_ast 2 e_okL 29)) t_99_29 (e_cg_ast 2 e_okL)
noncomputable def n_99_27 : e_Y := u_push (e_L 9223372036854775808) n_99_28
theorem t_99_27 : e_Sn 99 27 (e_un n_99_27) := u_pushT (s_lconst (n := 0) hq_99 (by decide +kernel) rfl ⟨by decide +kernel, by decide +kernel⟩ : e_Sn 99 27 (o_push (e_L 9223372036854775808) 28)) t_99_28
noncomputable def n_99_26 : e_Y := u_push (.inl 2147483652) n_99_27
theorem t_99_26 : e_Sn 99 26 (e_un n_99_26) := u_pushT (s_iconst (n := (4)) hq_99 (by decide +kernel) rfl ⟨by decide +kernel, by decide +kernel⟩ : e_Sn 99 26 (o_push (.inl 2147483652) 27)) t_99_27
noncomputable def n_99_25 : e_Y := u_old (o_dup 26) n_99_26
theorem t_99_25 : e_Sn 99 25 (e_un n_99_25) := u_oldT (s_dup hq_99 (by decide +kernel) rfl : e_Sn 99 25 (o_dup 26)) t_99_26 e_cg_dup
noncomputable def n_99_24 : e_Y := u_old (o_ast 2 e_okL 25) n_99_25
theorem t_99_24 : e_Sn 99 24 (e_un n_99_24) := u_oldT (s_last hq_99 (by decide +kernel) rfl : e_Sn 99 24 (o_ast 2 e_okL 25)) t_99_25 (e_cg_ast 2 e_okL)
noncomputable def n_99_23 : e_Y := u_push (e_L 9223372036854775809) n_99_24
theorem t_99_23 : e_Sn 99 23 (e_un n_99_23) := u_pushT (s_lconst (n := 1) hq_99 (by decide +kernel) rfl ⟨by decide +kernel, by decide +kernel⟩ : e_Sn 99 23 (o_push (e_L 9223372036854775809) 24)) t_99_24
noncomputable def n_99_22 : e_Y := u_push (.inl 2147483651) n_99_23
theorem t_99_22 : e_Sn 99 22 (e_un n_99_22) := u_pushT (s_iconst (n := (3)) hq_99 (by decide +kernel) rfl ⟨by decide +kernel, by decide +kernel⟩ : e_Sn 99 22 (o_push (.inl 2147483651) 23)) t_99_23
noncomputable def n_99_21 : e_Y := u_old (o_dup 22) n_99_22
theorem t_99_21 : e_Sn 99 21 (e_un n_99_21) := u_oldT (s_dup hq_99 (by decide +kernel) rfl : e_Sn 99 21 (o_dup 22)) t_99_22 e_cg_dup
noncomputable def n_99_20 : e_Y := u_old (o_ast 2 e_okL 21) n_99_21
theorem t_99_20 : e_Sn 99 20 (e_un n_99_20) := u_oldT (s_last hq_99 (by decide +kernel) rfl : e_Sn 99 20 (o_ast 2 e_okL 21)) t_99_21 (e_cg_ast 2 e_okL)
noncomputable def n_99_19 : e_Y := u_push (e_L 9223372036854775808) n_99_20
theorem t_99_19 : e_Sn 99 19 (e_un n_99_19) := u_pushT (s_lconst (n := 0) hq_99 (by decide +kernel) rfl ⟨by decide +kernel, by decide +kernel⟩ : e_Sn 99 19 (o_push (e_L 9223372036854775808) 20)) t_99_20
noncomputable def n_99_18 : e_Y := u_push (.inl 2147483650) n_99_19
theorem t_99_18 : e_Sn 99 18 (e_un n_99_18) := u_pushT (s_iconst (n := (2)) hq_99 (by decide +kernel) rfl ⟨by decide +kernel, by decide +kernel⟩ : e_Sn 99 18 (o_push (.inl 2147483650) 19)) t_99_19
noncomputable def n_99_17 : e_Y := u_old (o_dup 18) n_99_18
theorem t_99_17 : e_Sn 99 17 (e_un n_99_17) := u_oldT (s_dup hq_99 (by decide +kernel) rfl : e_Sn 99 17 (o_dup 18)) t_99_18 e_cg_dup
noncomputable def n_99_16 : e_Y := u_old (o_ast 2 e_okL 17) n_99_17
theorem t_99_16 : e_Sn 99 16 (e_un n_99_16) := u_oldT (s_last hq_99 (by decide +kernel) rfl : e_Sn 99 16 (o_ast 2 e_okL 17)) t_99_17 (e_cg_ast 2 e_okL)
noncomputable def n_99_15 : e_Y := u_push (e_L 9223372036854775809) n_99_16
theorem t_99_15 : e_Sn 99 15 (e_un n_99_15) := u_pushT (s_lconst (n := 1) hq_99 (by decide +kernel) rfl ⟨by decide +kernel, by decide +kernel⟩ : e_Sn 99 15 (o_push (e_L 9223372036854775809) 16)) t_99_16
noncomputable def n_99_14 : e_Y := u_push (.inl 2147483649) n_99_15
theorem t_99_14 : e_Sn 99 14 (e_un n_99_14) := u_pushT (s_iconst (n := (1)) hq_99 (by decide +kernel) rfl ⟨by decide +kernel, by decide +kernel⟩ : e_Sn 99 14 (o_push (.inl 2147483649) 15)) t_99_15
noncomputable def n_99_13 : e_Y := u_old (o_dup 14) n_99_14
theorem t_99_13 : e_Sn 99 13 (e_un n_99_13) := u_oldT (s_dup hq_99 (by decide +kernel) rfl : e_Sn 99 13 (o_dup 14)) t_99_14 e_cg_dup
noncomputable def n_99_12 : e_Y := u_old (o_ast 2 e_okL 13) n_99_13
theorem t_99_12 : e_Sn 99 12 (e_un n_99_12) := u_oldT (s_last hq_99 (by decide +kernel) rfl : e_Sn 99 12 (o_ast 2 e_okL 13)) t_99_13 (e_cg_ast 2 e_okL)
noncomputable def n_99_11 : e_Y := u_push (e_L 9223372036854775809) n_99_12
theorem t_99_11 : e_Sn 99 11 (e_un n_99_11) := u_pushT (s_lconst (n := 1) hq_99 (by decide +kernel) rfl ⟨by decide +kernel, by decide +kernel⟩ : e_Sn 99 11 (o_push (e_L 9223372036854775809) 12)) t_99_12
noncomputable def n_99_10 : e_Y := u_push (.inl 2147483648) n_99_11
theorem t_99_10 : e_Sn 99 10 (e_un n_99_10) := u_pushT (s_iconst (n := (0)) hq_99 (by decide +kernel) rfl ⟨by decide +kernel, by decide +kernel⟩ : e_Sn 99 10 (o_push (.inl 2147483648) 11)) t_99_11
noncomputable def n_99_9 : e_Y := u_old (o_dup 10) n_99_10
theorem t_99_9 : e_Sn 99 9 (e_un n_99_9) := u_oldT (s_dup hq_99 (by decide +kernel) rfl : e_Sn 99 9 (o_dup 10)) t_99_10 e_cg_dup
noncomputable def n_99_7 : e_Y := u_tab (o_newa 2 (e_L 9223372036854775808) 9)
theorem t_99_7 : e_Sn 99 7 (e_un n_99_7) := u_tabT (s_newJ r_m_1_142 hq_99 (by decide +kernel) rfl : e_Sn 99 7 (o_newa 2 (e_L 9223372036854775808) 9))
noncomputable def n_99_5 : e_Y := u_push (.inl 2147483660) n_99_7
theorem t_99_5 : e_Sn 99 5 (e_un n_99_5) := u_pushT (s_bipush (n := (12)) hq_99 (by decide +kernel) rfl ⟨by decide +kernel, by decide +kernel⟩ : e_Sn 99 5 (o_push (.inl 2147483660) 7)) t_99_7
noncomputable def n_99_4 : e_Y := u_ld f_okA f_l0 n_99_5
theorem t_99_4 : e_Sn 99 4 (e_un n_99_4) := u_ldAT f_l0_eq (s_aload (i := .aload_n 0) (len := 1) hq_99 (by decide +kernel) rfl (.inr ⟨0, rfl, rfl, rfl⟩) : e_Sn 99 4 (o_load e_okR 0 5)) t_99_5
noncomputable def n_99_1 : e_Y := u_tab (o_oinit 4)
theorem t_99_1 : e_Sn 99 1 (e_un n_99_1) := u_tabT (s_oinit (idx := 3) hq_99 ho_99 (r_k7 (List.mem_of_getElem? (i := 209) (by decide +kernel))) r_m_1_53 r_m_1_54 (by decide +kernel) rfl : e_Sn 99 1 (o_oinit 4))
noncomputable def n_99_0 : e_Y := u_ld f_okA f_l0 n_99_1
theorem t_99_0 : e_Sn 99 0 (e_un n_99_0) := u_ldAT f_l0_eq (s_aload (i := .aload_n 0) (len := 1) hq_99 (by decide +kernel) rfl (.inr ⟨0, rfl, rfl, rfl⟩) : e_Sn 99 0 (o_load e_okR 0 1)) t_99_1
noncomputable def e_tb_99 : e_X := (e_br 83 (e_br 9 (e_br 4 (e_lf 0 (e_un n_99_0)) (e_lf 4 (e_un n_99_4))) (e_br 70 (e_lf 9 (e_un n_99_9)) (e_lf 70 (e_un n_99_70)))) (e_br 114 (e_br 90 (e_lf 83 (e_un n_99_83)) (e_lf 90 (e_un n_99_90))) (e_br 135 (e_lf 114 (e_un n_99_114)) (e_lf 135 (e_un n_99_135)))))
theorem e_tk_99 : e_Tb 99 e_tb_99 := (e_brT (e_brT (e_brT (e_lfT t_99_0) (e_lfT t_99_4)) (e_brT (e_lfT t_99_9) (e_lfT t_99_70))) (e_brT (e_brT (e_lfT t_99_83) (e_lfT t_99_90)) (e_brT (e_lfT t_99_114) (e_lfT t_99_135))))
theorem hq_112 : (e_ml[112]?).map (·.2.1) = some prog_50_method_6_code := Eq.trans (congrArg (Option.map (fun e => e.2.1)) hy_112) rfl
theorem ho_112 : (e_ml[112]?).map (·.1.cls) = some "java/util/ArrayList" := Eq.trans (congrArg (Option.map (fun e => e.1.cls)) hy_112) rfl
theorem hr_112 : (e_ml[112]?).map (·.2.2.2) = some (some (.array (.object "java/lang/Object"))) := Eq.trans (congrArg (Option.map (fun e => e.2.2.2)) hy_112) rfl
noncomputable def n_112_59 : e_Y := u_retA
theorem t_112_59 : e_Sn 112 59 (e_un n_112_59) := u_retAT (s_aret (.inr ⟨_, rfl⟩) hq_112 hr_112 (by decide +kernel) : e_Sn 112 59 (o_ret e_okR))
noncomputable def n_112_56 : e_Y := u_putf 19 0 f_okA (u_old (o_putf (e_f1 19 0) e_okR 59) n_112_59) n_112_59
theorem t_112_56 : e_Sn 112 56 (e_un n_112_56) := u_putfT (fun _ => f_okA_eq) (s_putf (ty0 := ey_19) (ok := e_okR) (C := er_19) (T := et_19) (N := 3) (ref := "java/util/ArrayList") (index := 9) (ci := 19) (k := 0) hq_112 ho_112 ⟨rfl, by decide, ei_19, r_m_7_187, .inl rfl⟩ eo_19 en_19 e_oksA (.inl rfl) (by decide +kernel) rfl : e_Sn 112 56 (o_putf (e_f1 19 0) e_okR 59)) t_112_59
noncomputable def n_112_55 : e_Y := u_old (o_dup_x1 56) n_112_56
theorem t_112_55 : e_Sn 112 55 (e_un n_112_55) := u_oldT (s_dup_x1 hq_112 (by decide +kernel) rfl : e_Sn 112 55 (o_dup_x1 56)) t_112_56 e_cg_dup_x1
noncomputable def n_112_52 : e_Y := u_tab (o_newa 3 e_N 55)
theorem t_112_52 : e_Sn 112 52 (e_un n_112_52) := u_tabT (s_newR (tc := 0) (index := 7) (E := "java/lang/Object") rfl ho_112 (r_k8 (List.mem_of_getElem? (i := 72) (by decide +kernel))) (fun s h => h _ (List.mem_filter.mpr ⟨(r_k8 (List.mem_of_getElem? (i := 67) (by decide +kernel))), rfl⟩)) hq_112 (by decide +kernel) rfl : e_Sn 112 52 (o_newa 3 e_N 55))
noncomputable def n_112_49 : e_Y := u_tab (o_mmax 52)
theorem t_112_49 : e_Sn 112 49 (e_un n_112_49) := u_tabT (s_mmax (index := 79) hq_112 ho_112 (r_k8 (List.mem_of_getElem? (i := 71) (by decide +kernel))) r_m_1_92 r_m_1_5 r_m_1_93 (by decide +kernel) rfl : e_Sn 112 49 (o_mmax 52))
noncomputable def n_112_48 : e_Y := u_ld f_okI f_l1 n_112_49
theorem t_112_48 : e_Sn 112 48 (e_un n_112_48) := u_ldIT f_l1_eq (s_iload (i := .iload_n 1) (len := 1) hq_112 (by decide +kernel) rfl (.inr ⟨1, rfl, rfl, rfl⟩) : e_Sn 112 48 (o_load e_okI 1 49)) t_112_49
noncomputable def n_112_46 : e_Y := u_push (.inl 2147483658) n_112_48
theorem t_112_46 : e_Sn 112 46 (e_un n_112_46) := u_pushT (s_bipush (n := (10)) hq_112 (by decide +kernel) rfl ⟨by decide +kernel, by decide +kernel⟩ : e_Sn 112 46 (o_push (.inl 2147483658) 48)) t_112_48
noncomputable def n_112_45 : e_Y := u_ld f_okA f_l0 n_112_46
theorem t_112_45 : e_Sn 112 45 (e_un n_112_45) := u_ldAT f_l0_eq (s_aload (i := .aload_n 0) (len := 1) hq_112 (by decide +kernel) rfl (.inr ⟨0, rfl, rfl, rfl⟩) : e_Sn 112 45 (o_load e_okR 0 46)) t_112_46
noncomputable def n_112_17 : e_Y := u_tab (o_acmp 45 20)
theorem t_112_17 : e_Sn 112 17 (e_un n_112_17) := u_tabT (s_acmpeq (off := (28)) hq_112 (by decide +kernel) rfl rfl : e_Sn 112 17 (o_acmp 45 20))
noncomputable def n_112_14 : e_Y := u_push (e_B 3) n_112_17
theorem t_112_14 : e_Sn 112 14 (e_un n_112_14) := u_pushT (s_gets (k := 3) (index := 39) (C := "java/util/ArrayList") (f := "DEFAULTCAPACITY_EMPTY_ELEMENTDATA") (d := "[Ljava/lang/Object;") hq_112 ho_112 r_m_7_185 (by simp [e_sv]) (by decide +kernel) rfl : e_Sn 112 14 (o_push (e_B 3) 17)) t_112_17
noncomputable def n_112_11 : e_Y := u_getf 19 0 (u_old (o_getf (e_f1 19 0) 14) n_112_14) n_112_14
theorem t_112_11 : e_Sn 112 11 (e_un n_112_11) := u_getfT (s_getf (C := er_19) (T := et_19) (N := 3) (ref := "java/util/ArrayList") (index := 9) (ci := 19) (k := 0) hq_112 ho_112 ⟨rfl, by decide, ei_19, r_m_7_187, .inl rfl⟩ (by decide +kernel) rfl : e_Sn 112 11 (o_getf (e_f1 19 0) 14)) t_112_14
noncomputable def n_112_10 : e_Y := u_ld f_okA f_l0 n_112_11
theorem t_112_10 : e_Sn 112 10 (e_un n_112_10) := u_ldAT f_l0_eq (s_aload (i := .aload_n 0) (len := 1) hq_112 (by decide +kernel) rfl (.inr ⟨0, rfl, rfl, rfl⟩) : e_Sn 112 10 (o_load e_okR 0 11)) t_112_11
noncomputable def n_112_7 : e_Y := u_if y_le0 (u_old2 (o_ifgt 20 10) 20 (u_at 20) n_112_10) (u_at 20) n_112_10
theorem t_112_7 : e_Sn 112 7 (e_un n_112_7) := u_ifgtT rfl (s_ifgt (off := (13)) hq_112 (by decide +kernel) rfl rfl : e_Sn 112 7 (o_ifgt 20 10)) u_atT t_112_10
noncomputable def n_112_6 : e_Y := u_ld f_okI f_l2 n_112_7
theorem t_112_6 : e_Sn 112 6 (e_un n_112_6) := u_ldIT f_l2_eq (s_iload (i := .iload_n 2) (len := 1) hq_112 (by decide +kernel) rfl (.inr ⟨2, rfl, rfl, rfl⟩) : e_Sn 112 6 (o_load e_okI 2 7)) t_112_7
noncomputable def n_112_5 : e_Y := u_st f_okI f_s2 n_112_6
theorem t_112_5 : e_Sn 112 5 (e_un n_112_5) := u_stIT (fun _ _ _ => f_s2_eq) (s_istore (i := .istore_n 2) (len := 1) hq_112 (by decide +kernel) rfl (.inr ⟨2, rfl, rfl, rfl⟩) : e_Sn 112 5 (o_store e_okI 2 6)) t_112_6
noncomputable def n_112_4 : e_Y := u_old (o_alen e_fcs 5) n_112_5
theorem t_112_4 : e_Sn 112 4 (e_un n_112_4) := u_oldT (s_alen hq_112 (by decide +kernel) rfl : e_Sn 112 4 (o_alen e_fcs 5)) t_112_5 (e_cg_alen e_fcs)
noncomputable def n_112_1 : e_Y := u_getf 19 0 (u_old (o_getf (e_f1 19 0) 4) n_112_4) n_112_4
theorem t_112_1 : e_Sn 112 1 (e_un n_112_1) := u_getfT (s_getf (C := er_19) (T := et_19) (N := 3) (ref := "java/util/ArrayList") (index := 9) (ci := 19) (k := 0) hq_112 ho_112 ⟨rfl, by decide, ei_19, r_m_7_187, .inl rfl⟩ (by decide +kernel) rfl : e_Sn 112 1 (o_getf (e_f1 19 0) 4)) t_112_4
noncomputable def n_112_0 : e_Y := u_ld f_okA f_l0 n_112_1
theorem t_112_0 : e_Sn 112 0 (e_un n_112_0) := u_ldAT f_l0_eq (s_aload (i := .aload_n 0) (len := 1) hq_112 (by decide +kernel) rfl (.inr ⟨0, rfl, rfl, rfl⟩) : e_Sn 112 0 (o_load e_okR 0 1)) t_112_1
noncomputable def e_tb_112 : e_X := (e_br 52 (e_br 45 (e_lf 0 (e_un n_112_0)) (e_lf 45 (e_un n_112_45))) (e_br 55 (e_lf 52 (e_un n_112_52)) (e_lf 55 (e_un n_112_55))))
theorem e_tk_112 : e_Tb 112 e_tb_112 := (e_brT (e_brT (e_lfT t_112_0) (e_lfT t_112_45)) (e_brT (e_lfT t_112_52) (e_lfT t_112_55)))
end SN
