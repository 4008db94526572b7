/-! TABLES, by program -/
section SN
theorem hq_111 : (e_ml[111]?).map (·.2.1) = some prog_50_method_7_code := Eq.trans (congrArg (Option.map (fun e => e.2.1)) hy_111) rfl
theorem ho_111 : (e_ml[111]?).map (·.1.cls) = some "java/util/ArrayList" := Eq.trans (congrArg (Option.map (fun e => e.1.cls)) hy_111) rfl
theorem hr_111 : (e_ml[111]?).map (·.2.2.2) = some (some (.array (.object "java/lang/Object"))) := Eq.trans (congrArg (Option.map (fun e => e.2.2.2)) hy_111) rfl
noncomputable def n_111_10 : e_Y := u_retA
theorem t_111_10 : e_Sn 111 10 (e_un n_111_10) := u_retAT (s_aret (.inr ⟨_, rfl⟩) hq_111 hr_111 (by decide +kernel) : e_Sn 111 10 (o_ret e_okR))
noncomputable def n_111_7 : e_Y := u_callV 19 112 4 23 2 n_112_0 n_111_10
theorem t_111_7 : e_Sn 111 7 (e_un n_111_7) := u_callVT rfl (s_callV (ci := 19) (C := er_19) (T := et_19) (N := 3) (index := 69) hq_111 ho_111 hy_112 hp_112 hc_112 hi_112 hd_112 (r_k8 (List.mem_of_getElem? (i := 15) (by decide +kernel))) hs_112 (List.mem_of_getElem? (i := 12) (by decide +kernel)) rfl (by decide +kernel) rfl : e_Sn 111 7 (o_callV (e_s1 19 112 4) 2 10)) t_112_0 t_111_10
noncomputable def n_111_6 : e_Y := u_bin a_iadd (u_old (o_iadd 7) n_111_7) n_111_7
theorem t_111_6 : e_Sn 111 6 (e_un n_111_6) := u_iaddT (s_iadd hq_111 (by decide +kernel) rfl : e_Sn 111 6 (o_iadd 7)) t_111_7
noncomputable def n_111_5 : e_Y := u_push (.inl 2147483649) n_111_6
theorem t_111_5 : e_Sn 111 5 (e_un n_111_5) := u_pushT (s_iconst (n := (1)) hq_111 (by decide +kernel) rfl ⟨by decide +kernel, by decide +kernel⟩ : e_Sn 111 5 (o_push (.inl 2147483649) 6)) t_111_6
noncomputable def n_111_2 : e_Y := u_getf 19 1 (u_old (o_getf (e_f1 19 1) 5) n_111_5) n_111_5
theorem t_111_2 : e_Sn 111 2 (e_un n_111_2) := u_getfT (s_getf (C := er_19) (T := et_19) (N := 3) (ref := "java/util/ArrayList") (index := 48) (ci := 19) (k := 1) hq_111 ho_111 ⟨rfl, by decide, ei_19, r_m_7_190, .inl rfl⟩ (by decide +kernel) rfl : e_Sn 111 2 (o_getf (e_f1 19 1) 5)) t_111_5
noncomputable def n_111_1 : e_Y := u_ld f_okA f_l0 n_111_2
theorem t_111_1 : e_Sn 111 1 (e_un n_111_1) := u_ldAT f_l0_eq (s_aload (i := .aload_n 0) (len := 1) hq_111 (by decide +kernel) rfl (.inr ⟨0, rfl, rfl, rfl⟩) : e_Sn 111 1 (o_load e_okR 0 2)) t_111_2
noncomputable def n_111_0 : e_Y := u_ld f_okA f_l0 n_111_1
theorem t_111_0 : e_Sn 111 0 (e_un n_111_0) := u_ldAT f_l0_eq (s_aload (i := .aload_n 0) (len := 1) hq_111 (by decide +kernel) rfl (.inr ⟨0, rfl, rfl, rfl⟩) : e_Sn 111 0 (o_load e_okR 0 1)) t_111_1
noncomputable def e_tb_111 : e_X := (e_lf 0 (e_un n_111_0))
theorem e_tk_111 : e_Tb 111 e_tb_111 := (e_lfT t_111_0)
theorem hq_107 : (e_ml[107]?).map (·.2.1) = some prog_50_method_24_code := Eq.trans (congrArg (Option.map (fun e => e.2.1)) hy_107) rfl
theorem ho_107 : (e_ml[107]?).map (·.1.cls) = some "java/util/ArrayList" := Eq.trans (congrArg (Option.map (fun e => e.1.cls)) hy_107) rfl
theorem hr_107 : (e_ml[107]?).map (·.2.2.2) = some none := Eq.trans (congrArg (Option.map (fun e => e.2.2.2)) hy_107) rfl
noncomputable def n_107_22 : e_Y := u_retV
theorem t_107_22 : e_Sn 107 22 (e_un n_107_22) := u_retVT (s_vret hq_107 hr_107 (by decide +kernel) : e_Sn 107 22 (o_retv))
noncomputable def n_107_19 : e_Y := u_putf 19 1 f_okI (u_old (o_putf (e_f1 19 1) e_okI 22) n_107_22) n_107_22
theorem t_107_19 : e_Sn 107 19 (e_un n_107_19) := u_putfT (fun _ => f_okI_eq) (s_putf (ty0 := ey_19) (ok := e_okI) (C := er_19) (T := et_19) (N := 3) (ref := "java/util/ArrayList") (index := 48) (ci := 19) (k := 1) hq_107 ho_107 ⟨rfl, by decide, ei_19, r_m_7_190, .inl rfl⟩ eo_19 en_19 e_oksI (.inl rfl) (by decide +kernel) rfl : e_Sn 107 19 (o_putf (e_f1 19 1) e_okI 22)) t_107_22
noncomputable def n_107_18 : e_Y := u_bin a_iadd (u_old (o_iadd 19) n_107_19) n_107_19
theorem t_107_18 : e_Sn 107 18 (e_un n_107_18) := u_iaddT (s_iadd hq_107 (by decide +kernel) rfl : e_Sn 107 18 (o_iadd 19)) t_107_19
noncomputable def n_107_17 : e_Y := u_push (.inl 2147483649) n_107_18
theorem t_107_17 : e_Sn 107 17 (e_un n_107_17) := u_pushT (s_iconst (n := (1)) hq_107 (by decide +kernel) rfl ⟨by decide +kernel, by decide +kernel⟩ : e_Sn 107 17 (o_push (.inl 2147483649) 18)) t_107_18
noncomputable def n_107_16 : e_Y := u_ld f_okI f_l3 n_107_17
theorem t_107_16 : e_Sn 107 16 (e_un n_107_16) := u_ldIT f_l3_eq (s_iload (i := .iload_n 3) (len := 1) hq_107 (by decide +kernel) rfl (.inr ⟨3, rfl, rfl, rfl⟩) : e_Sn 107 16 (o_load e_okI 3 17)) t_107_17
noncomputable def n_107_15 : e_Y := u_ld f_okA f_l0 n_107_16
theorem t_107_15 : e_Sn 107 15 (e_un n_107_15) := u_ldAT f_l0_eq (s_aload (i := .aload_n 0) (len := 1) hq_107 (by decide +kernel) rfl (.inr ⟨0, rfl, rfl, rfl⟩) : e_Sn 107 15 (o_load e_okR 0 16)) t_107_16
noncomputable def n_107_14 : e_Y := u_old (o_astR 3 (fun k => Nat.beq k 13 || Nat.beq k 15 || Nat.beq k 100) 15) n_107_15
theorem t_107_14 : e_Sn 107 14 (e_un n_107_14) := u_oldT (s_aast (tc := 0) (E := "java/lang/Object") hq_107 rfl (by decide) (fun k hk => by
  simp only [Bool.or_eq_true, Nat.beq_eq] at hk
  rcases hk with ((rfl | rfl) | rfl) <;> first | exact ⟨er_13, rfl, .inr (r_k13 (List.mem_of_getElem? (i := 150) (by decide +kernel)))⟩ | exact ⟨er_15, rfl, .inr (r_k13 (List.mem_of_getElem? (i := 170) (by decide +kernel)))⟩ | exact ⟨"[I", rfl, .inr (r_k13 (List.mem_of_getElem? (i := 181) (by decide +kernel)))⟩) (by decide +kernel) rfl : e_Sn 107 14 (o_astR 3 (fun k => Nat.beq k 13 || Nat.beq k 15 || Nat.beq k 100) 15)) t_107_15 (e_cg_astR 3 (fun k => Nat.beq k 13 || Nat.beq k 15 || Nat.beq k 100))
noncomputable def n_107_13 : e_Y := u_ld f_okA f_l1 n_107_14
theorem t_107_13 : e_Sn 107 13 (e_un n_107_13) := u_ldAT f_l1_eq (s_aload (i := .aload_n 1) (len := 1) hq_107 (by decide +kernel) rfl (.inr ⟨1, rfl, rfl, rfl⟩) : e_Sn 107 13 (o_load e_okR 1 14)) t_107_14
noncomputable def n_107_12 : e_Y := u_ld f_okI f_l3 n_107_13
theorem t_107_12 : e_Sn 107 12 (e_un n_107_12) := u_ldIT f_l3_eq (s_iload (i := .iload_n 3) (len := 1) hq_107 (by decide +kernel) rfl (.inr ⟨3, rfl, rfl, rfl⟩) : e_Sn 107 12 (o_load e_okI 3 13)) t_107_13
noncomputable def n_107_11 : e_Y := u_ld f_okA f_l2 n_107_12
theorem t_107_11 : e_Sn 107 11 (e_un n_107_11) := u_ldAT f_l2_eq (s_aload (i := .aload_n 2) (len := 1) hq_107 (by decide +kernel) rfl (.inr ⟨2, rfl, rfl, rfl⟩) : e_Sn 107 11 (o_load e_okR 2 12)) t_107_12
noncomputable def n_107_10 : e_Y := u_st f_okA f_s2 n_107_11
theorem t_107_10 : e_Sn 107 10 (e_un n_107_10) := u_stAT (fun _ _ _ => f_s2_eq) (s_astore (i := .astore_n 2) (len := 1) hq_107 (by decide +kernel) rfl (.inr ⟨2, rfl, rfl, rfl⟩) : e_Sn 107 10 (o_store e_okR 2 11)) t_107_11
noncomputable def n_107_7 : e_Y := u_callV 19 111 1 20 1 n_111_0 n_107_10
theorem t_107_7 : e_Sn 107 7 (e_un n_107_7) := u_callVT rfl (s_callV (ci := 19) (C := er_19) (T := et_19) (N := 3) (index := 129) hq_107 ho_107 hy_111 hp_111 hc_111 hi_111 hd_111 (r_k8 (List.mem_of_getElem? (i := 11) (by decide +kernel))) hs_111 (List.mem_of_getElem? (i := 11) (by decide +kernel)) rfl (by decide +kernel) rfl : e_Sn 107 7 (o_callV (e_s1 19 111 1) 1 10)) t_111_0 t_107_10
noncomputable def n_107_6 : e_Y := u_ld f_okA f_l0 n_107_7
theorem t_107_6 : e_Sn 107 6 (e_un n_107_6) := u_ldAT f_l0_eq (s_aload (i := .aload_n 0) (len := 1) hq_107 (by decide +kernel) rfl (.inr ⟨0, rfl, rfl, rfl⟩) : e_Sn 107 6 (o_load e_okR 0 7)) t_107_7
noncomputable def n_107_3 : e_Y := u_jmp y_ne (u_old2 (o_ceq 6 11) 6 n_107_6 n_107_11) n_107_6 n_107_11
theorem t_107_3 : e_Sn 107 3 (e_un n_107_3) := u_ceqT rfl (s_cne (off := (8)) hq_107 (by decide +kernel) rfl rfl : e_Sn 107 3 (o_ceq 6 11)) t_107_6 t_107_11
noncomputable def n_107_2 : e_Y := u_old (o_alen e_fcs 3) n_107_3
theorem t_107_2 : e_Sn 107 2 (e_un n_107_2) := u_oldT (s_alen hq_107 (by decide +kernel) rfl : e_Sn 107 2 (o_alen e_fcs 3)) t_107_3 (e_cg_alen e_fcs)
noncomputable def n_107_1 : e_Y := u_ld f_okA f_l2 n_107_2
theorem t_107_1 : e_Sn 107 1 (e_un n_107_1) := u_ldAT f_l2_eq (s_aload (i := .aload_n 2) (len := 1) hq_107 (by decide +kernel) rfl (.inr ⟨2, rfl, rfl, rfl⟩) : e_Sn 107 1 (o_load e_okR 2 2)) t_107_2
noncomputable def n_107_0 : e_Y := u_ld f_okI f_l3 n_107_1
theorem t_107_0 : e_Sn 107 0 (e_un n_107_0) := u_ldIT f_l3_eq (s_iload (i := .iload_n 3) (len := 1) hq_107 (by decide +kernel) rfl (.inr ⟨3, rfl, rfl, rfl⟩) : e_Sn 107 0 (o_load e_okI 3 1)) t_107_1
noncomputable def e_tb_107 : e_X := (e_lf 0 (e_un n_107_0))
theorem e_tk_107 : e_Tb 107 e_tb_107 := (e_lfT t_107_0)
theorem hq_106 : (e_ml[106]?).map (·.2.1) = some prog_50_method_25_code := Eq.trans (congrArg (Option.map (fun e => e.2.1)) hy_106) rfl
theorem ho_106 : (e_ml[106]?).map (·.1.cls) = some "java/util/ArrayList" := Eq.trans (congrArg (Option.map (fun e => e.1.cls)) hy_106) rfl
theorem hr_106 : (e_ml[106]?).map (·.2.2.2) = some (some .boolean) := Eq.trans (congrArg (Option.map (fun e => e.2.2.2)) hy_106) rfl
noncomputable def n_106_24 : e_Y := u_tab (o_ret e_okZ)
theorem t_106_24 : e_Sn 106 24 (e_un n_106_24) := u_tabT (s_zret hq_106 hr_106 (by decide +kernel) : e_Sn 106 24 (o_ret e_okZ))
noncomputable def n_106_23 : e_Y := u_push (.inl 2147483649) n_106_24
theorem t_106_23 : e_Sn 106 23 (e_un n_106_23) := u_pushT (s_iconst (n := (1)) hq_106 (by decide +kernel) rfl ⟨by decide +kernel, by decide +kernel⟩ : e_Sn 106 23 (o_push (.inl 2147483649) 24)) t_106_24
noncomputable def n_106_20 : e_Y := u_callV 19 107 4 23 4 n_107_0 n_106_23
theorem t_106_20 : e_Sn 106 20 (e_un n_106_20) := u_callVT rfl (s_callV (ci := 19) (C := er_19) (T := et_19) (N := 3) (index := 131) hq_106 ho_106 hy_107 hp_107 hc_107 hi_107 hd_107 (r_k8 (List.mem_of_getElem? (i := 7) (by decide +kernel))) hs_107 (List.mem_of_getElem? (i := 10) (by decide +kernel)) rfl (by decide +kernel) rfl : e_Sn 106 20 (o_callV (e_s1 19 107 4) 4 23)) t_107_0 t_106_23
noncomputable def n_106_17 : e_Y := u_getf 19 1 (u_old (o_getf (e_f1 19 1) 20) n_106_20) n_106_20
theorem t_106_17 : e_Sn 106 17 (e_un n_106_17) := u_getfT (s_getf (C := er_19) (T := et_19) (N := 3) (ref := "java/util/ArrayList") (index := 48) (ci := 19) (k := 1) hq_106 ho_106 ⟨rfl, by decide, ei_19, r_m_7_190, .inl rfl⟩ (by decide +kernel) rfl : e_Sn 106 17 (o_getf (e_f1 19 1) 20)) t_106_20
noncomputable def n_106_16 : e_Y := u_ld f_okA f_l0 n_106_17
theorem t_106_16 : e_Sn 106 16 (e_un n_106_16) := u_ldAT f_l0_eq (s_aload (i := .aload_n 0) (len := 1) hq_106 (by decide +kernel) rfl (.inr ⟨0, rfl, rfl, rfl⟩) : e_Sn 106 16 (o_load e_okR 0 17)) t_106_17
noncomputable def n_106_13 : e_Y := u_getf 19 0 (u_old (o_getf (e_f1 19 0) 16) n_106_16) n_106_16
theorem t_106_13 : e_Sn 106 13 (e_un n_106_13) := u_getfT (s_getf (C := er_19) (T := et_19) (N := 3) (ref := "java/util/ArrayList") (index := 9) (ci := 19) (k := 0) hq_106 ho_106 ⟨rfl, by decide, ei_19, r_m_7_187, .inl rfl⟩ (by decide +kernel) rfl : e_Sn 106 13 (o_getf (e_f1 19 0) 16)) t_106_16
noncomputable def n_106_12 : e_Y := u_ld f_okA f_l0 n_106_13
theorem t_106_12 : e_Sn 106 12 (e_un n_106_12) := u_ldAT f_l0_eq (s_aload (i := .aload_n 0) (len := 1) hq_106 (by decide +kernel) rfl (.inr ⟨0, rfl, rfl, rfl⟩) : e_Sn 106 12 (o_load e_okR 0 13)) t_106_13
noncomputable def n_106_11 : e_Y := u_ld f_okA f_l1 n_106_12
theorem t_106_11 : e_Sn 106 11 (e_un n_106_11) := u_ldAT f_l1_eq (s_aload (i := .aload_n 1) (len := 1) hq_106 (by decide +kernel) rfl (.inr ⟨1, rfl, rfl, rfl⟩) : e_Sn 106 11 (o_load e_okR 1 12)) t_106_12
noncomputable def n_106_10 : e_Y := u_ld f_okA f_l0 n_106_11
theorem t_106_10 : e_Sn 106 10 (e_un n_106_10) := u_ldAT f_l0_eq (s_aload (i := .aload_n 0) (len := 1) hq_106 (by decide +kernel) rfl (.inr ⟨0, rfl, rfl, rfl⟩) : e_Sn 106 10 (o_load e_okR 0 11)) t_106_11
noncomputable def n_106_7 : e_Y := u_putf 19 2 f_okI (u_old (o_putf (e_f1 19 2) e_okI 10) n_106_10) n_106_10
theorem t_106_7 : e_Sn 106 7 (e_un n_106_7) := u_putfT (fun _ => f_okI_eq) (s_putf (ty0 := ey_19) (ok := e_okI) (C := er_19) (T := et_19) (N := 3) (ref := "java/util/ArrayList") (index := 63) (ci := 19) (k := 2) hq_106 ho_106 ⟨rfl, by decide, ei_19, r_m_7_194, .inr r_m_7_193⟩ eo_19 en_19 e_oksI (.inl rfl) (by decide +kernel) rfl : e_Sn 106 7 (o_putf (e_f1 19 2) e_okI 10)) t_106_10
noncomputable def n_106_6 : e_Y := u_bin a_iadd (u_old (o_iadd 7) n_106_7) n_106_7
theorem t_106_6 : e_Sn 106 6 (e_un n_106_6) := u_iaddT (s_iadd hq_106 (by decide +kernel) rfl : e_Sn 106 6 (o_iadd 7)) t_106_7
noncomputable def n_106_5 : e_Y := u_push (.inl 2147483649) n_106_6
theorem t_106_5 : e_Sn 106 5 (e_un n_106_5) := u_pushT (s_iconst (n := (1)) hq_106 (by decide +kernel) rfl ⟨by decide +kernel, by decide +kernel⟩ : e_Sn 106 5 (o_push (.inl 2147483649) 6)) t_106_6
noncomputable def n_106_2 : e_Y := u_getf 19 2 (u_old (o_getf (e_f1 19 2) 5) n_106_5) n_106_5
theorem t_106_2 : e_Sn 106 2 (e_un n_106_2) := u_getfT (s_getf (C := er_19) (T := et_19) (N := 3) (ref := "java/util/ArrayList") (index := 63) (ci := 19) (k := 2) hq_106 ho_106 ⟨rfl, by decide, ei_19, r_m_7_194, .inr r_m_7_193⟩ (by decide +kernel) rfl : e_Sn 106 2 (o_getf (e_f1 19 2) 5)) t_106_5
noncomputable def n_106_1 : e_Y := u_old (o_dup 2) n_106_2
theorem t_106_1 : e_Sn 106 1 (e_un n_106_1) := u_oldT (s_dup hq_106 (by decide +kernel) rfl : e_Sn 106 1 (o_dup 2)) t_106_2 e_cg_dup
noncomputable def n_106_0 : e_Y := u_ld f_okA f_l0 n_106_1
theorem t_106_0 : e_Sn 106 0 (e_un n_106_0) := u_ldAT f_l0_eq (s_aload (i := .aload_n 0) (len := 1) hq_106 (by decide +kernel) rfl (.inr ⟨0, rfl, rfl, rfl⟩) : e_Sn 106 0 (o_load e_okR 0 1)) t_106_1
noncomputable def e_tb_106 : e_X := (e_lf 0 (e_un n_106_0))
theorem e_tk_106 : e_Tb 106 e_tb_106 := (e_lfT t_106_0)
theorem hq_75 : (e_ml[75]?).map (·.2.1) = some prog_17_method_1_code := Eq.trans (congrArg (Option.map (fun e => e.2.1)) hy_75) rfl
theorem ho_75 : (e_ml[75]?).map (·.1.cls) = some "PlateroomprinterModel$Machine" := Eq.trans (congrArg (Option.map (fun e => e.1.cls)) hy_75) rfl
theorem hr_75 : (e_ml[75]?).map (·.2.2.2) = some none := Eq.trans (congrArg (Option.map (fun e => e.2.2.2)) hy_75) rfl
noncomputable def n_75_107 : e_Y := u_retV
theorem t_75_107 : e_Sn 75 107 (e_un n_75_107) := u_retVT (s_vret hq_75 hr_75 (by decide +kernel) : e_Sn 75 107 (o_retv))
noncomputable def n_75_104 : e_Y := (u_at 87)
theorem t_75_104 : e_Sn 75 104 (e_un n_75_104) := u_gotoT (s_goto (off := (-17)) hq_75 (by decide +kernel) rfl : e_Sn 75 104 (o_goto 87)) u_atT
noncomputable def n_75_101 : e_Y := u_inc f_l1 f_s1 1 n_75_104
theorem t_75_101 : e_Sn 75 101 (e_un n_75_101) := u_incT f_l1_eq (fun _ _ _ => f_s1_eq) (s_iinc (zz := (1)) hq_75 (by decide +kernel) rfl (by decide +kernel) ⟨by decide, by decide⟩ : e_Sn 75 101 (o_iinc 1 1 104)) t_75_104
noncomputable def n_75_100 : e_Y := u_pop n_75_101
theorem t_75_100 : e_Sn 75 100 (e_un n_75_100) := u_popT (s_pop hq_75 (by decide +kernel) rfl : e_Sn 75 100 (o_pop 101)) t_75_101
noncomputable def n_75_97 : e_Y := u_callV 19 106 2 21 2 n_106_0 n_75_100
theorem t_75_97 : e_Sn 75 97 (e_un n_75_97) := u_callVT rfl (s_callV (ci := 19) (C := er_19) (T := et_19) (N := 3) (index := 48) hq_75 ho_75 hy_106 hp_106 hc_106 hi_106 hd_106 (r_k8 (List.mem_of_getElem? (i := 3) (by decide +kernel))) hs_106 r_m_8_5 rfl (by decide +kernel) rfl : e_Sn 75 97 (o_callV (e_s1 19 106 2) 2 100)) t_106_0 t_75_100
noncomputable def n_75_96 : e_Y := u_push e_N n_75_97
theorem t_75_96 : e_Sn 75 96 (e_un n_75_96) := u_pushT (s_null hq_75 (by decide +kernel) rfl : e_Sn 75 96 (o_push e_N 97)) t_75_97
noncomputable def n_75_93 : e_Y := u_getf 14 4 (u_old (o_getf (e_f1 14 4) 96) n_75_96) n_75_96
theorem t_75_93 : e_Sn 75 93 (e_un n_75_93) := u_getfT (s_getf (C := er_14) (T := et_14) (N := 13) (ref := "PlateroomprinterModel$Machine") (index := 34) (ci := 14) (k := 4) hq_75 ho_75 ⟨rfl, by decide, ei_14, r_m_8_85, .inl rfl⟩ (by decide +kernel) rfl : e_Sn 75 93 (o_getf (e_f1 14 4) 96)) t_75_96
noncomputable def n_75_92 : e_Y := u_ld f_okA f_l0 n_75_93
theorem t_75_92 : e_Sn 75 92 (e_un n_75_92) := u_ldAT f_l0_eq (s_aload (i := .aload_n 0) (len := 1) hq_75 (by decide +kernel) rfl (.inr ⟨0, rfl, rfl, rfl⟩) : e_Sn 75 92 (o_load e_okR 0 93)) t_75_93
noncomputable def n_75_89 : e_Y := u_jmp y_ge (u_old2 (o_clt 92 107) 92 n_75_92 n_75_107) n_75_92 n_75_107
theorem t_75_89 : e_Sn 75 89 (e_un n_75_89) := u_cltT rfl (s_cge (off := (18)) hq_75 (by decide +kernel) rfl rfl : e_Sn 75 89 (o_clt 92 107)) t_75_92 t_75_107
noncomputable def n_75_88 : e_Y := u_push (.inl 2147483653) n_75_89
theorem t_75_88 : e_Sn 75 88 (e_un n_75_88) := u_pushT (s_iconst (n := (5)) hq_75 (by decide +kernel) rfl ⟨by decide +kernel, by decide +kernel⟩ : e_Sn 75 88 (o_push (.inl 2147483653) 89)) t_75_89
noncomputable def n_75_87 : e_Y := u_ld f_okI f_l1 n_75_88
theorem t_75_87 : e_Sn 75 87 (e_un n_75_87) := u_ldIT f_l1_eq (s_iload (i := .iload_n 1) (len := 1) hq_75 (by decide +kernel) rfl (.inr ⟨1, rfl, rfl, rfl⟩) : e_Sn 75 87 (o_load e_okI 1 88)) t_75_88
noncomputable def n_75_86 : e_Y := u_st f_okI f_s1 n_75_87
theorem t_75_86 : e_Sn 75 86 (e_un n_75_86) := u_stIT (fun _ _ _ => f_s1_eq) (s_istore (i := .istore_n 1) (len := 1) hq_75 (by decide +kernel) rfl (.inr ⟨1, rfl, rfl, rfl⟩) : e_Sn 75 86 (o_store e_okI 1 87)) t_75_87
noncomputable def n_75_85 : e_Y := u_push (.inl 2147483648) n_75_86
theorem t_75_85 : e_Sn 75 85 (e_un n_75_85) := u_pushT (s_iconst (n := (0)) hq_75 (by decide +kernel) rfl ⟨by decide +kernel, by decide +kernel⟩ : e_Sn 75 85 (o_push (.inl 2147483648) 86)) t_75_86
noncomputable def n_75_82 : e_Y := u_putf 14 12 f_okA (u_old (o_putf (e_f1 14 12) e_okR 85) n_75_85) n_75_85
theorem t_75_82 : e_Sn 75 82 (e_un n_75_82) := u_putfT (fun _ => f_okA_eq) (s_putf (ty0 := ey_14) (ok := e_okR) (C := er_14) (T := et_14) (N := 13) (ref := "PlateroomprinterModel$Machine") (index := 44) (ci := 14) (k := 12) hq_75 ho_75 ⟨rfl, by decide, ei_14, r_m_8_109, .inl rfl⟩ eo_14 en_14 e_oksA (.inl rfl) (by decide +kernel) rfl : e_Sn 75 82 (o_putf (e_f1 14 12) e_okR 85)) t_75_85
noncomputable def n_75_80 : e_Y := u_tab (o_newa 0 (e_I 2147483648) 82)
theorem t_75_80 : e_Sn 75 80 (e_un n_75_80) := u_tabT (s_newI r_m_1_78 hq_75 (by decide +kernel) rfl : e_Sn 75 80 (o_newa 0 (e_I 2147483648) 82))
noncomputable def n_75_78 : e_Y := u_push (.inl 2147483701) n_75_80
theorem t_75_78 : e_Sn 75 78 (e_un n_75_78) := u_pushT (s_bipush (n := (53)) hq_75 (by decide +kernel) rfl ⟨by decide +kernel, by decide +kernel⟩ : e_Sn 75 78 (o_push (.inl 2147483701) 80)) t_75_80
noncomputable def n_75_77 : e_Y := u_ld f_okA f_l0 n_75_78
theorem t_75_77 : e_Sn 75 77 (e_un n_75_77) := u_ldAT f_l0_eq (s_aload (i := .aload_n 0) (len := 1) hq_75 (by decide +kernel) rfl (.inr ⟨0, rfl, rfl, rfl⟩) : e_Sn 75 77 (o_load e_okR 0 78)) t_75_78
noncomputable def n_75_74 : e_Y := u_putf 14 6 f_okA (u_old (o_putf (e_f1 14 6) e_okR 77) n_75_77) n_75_77
theorem t_75_74 : e_Sn 75 74 (e_un n_75_74) := u_putfT (fun _ => f_okA_eq) (s_putf (ty0 := ey_14) (ok := e_okR) (C := er_14) (T := et_14) (N := 13) (ref := "PlateroomprinterModel$Machine") (index := 40) (ci := 14) (k := 6) hq_75 ho_75 ⟨rfl, by decide, ei_14, r_m_8_91, .inl rfl⟩ eo_14 en_14 e_oksA (.inl rfl) (by decide +kernel) rfl : e_Sn 75 74 (o_putf (e_f1 14 6) e_okR 77)) t_75_77
noncomputable def n_75_72 : e_Y := u_tab (o_newa 1 (e_I 2147483648) 74)
theorem t_75_72 : e_Sn 75 72 (e_un n_75_72) := u_tabT (s_newZ r_m_8_2 hq_75 (by decide +kernel) rfl : e_Sn 75 72 (o_newa 1 (e_I 2147483648) 74))
noncomputable def n_75_69 : e_Y := u_push (.inl 2147487744) n_75_72
theorem t_75_69 : e_Sn 75 69 (e_un n_75_69) := u_pushT (s_sipush (n := (4096)) hq_75 (by decide +kernel) rfl ⟨by decide +kernel, by decide +kernel⟩ : e_Sn 75 69 (o_push (.inl 2147487744) 72)) t_75_72
noncomputable def n_75_68 : e_Y := u_ld f_okA f_l0 n_75_69
theorem t_75_68 : e_Sn 75 68 (e_un n_75_68) := u_ldAT f_l0_eq (s_aload (i := .aload_n 0) (len := 1) hq_75 (by decide +kernel) rfl (.inr ⟨0, rfl, rfl, rfl⟩) : e_Sn 75 68 (o_load e_okR 0 69)) t_75_69
noncomputable def n_75_65 : e_Y := u_putf 14 5 f_okA (u_old (o_putf (e_f1 14 5) e_okR 68) n_75_68) n_75_68
theorem t_75_65 : e_Sn 75 65 (e_un n_75_65) := u_putfT (fun _ => f_okA_eq) (s_putf (ty0 := ey_14) (ok := e_okR) (C := er_14) (T := et_14) (N := 13) (ref := "PlateroomprinterModel$Machine") (index := 37) (ci := 14) (k := 5) hq_75 ho_75 ⟨rfl, by decide, ei_14, r_m_8_88, .inl rfl⟩ eo_14 en_14 e_oksR (.inl rfl) (by decide +kernel) rfl : e_Sn 75 65 (o_putf (e_f1 14 5) e_okR 68)) t_75_68
noncomputable def n_75_62 : e_Y := u_callI 105 1 20 1 n_105_0 n_75_65
theorem t_75_62 : e_Sn 75 62 (e_un n_75_62) := u_callIT rfl (s_callI (index := 11) hq_75 ho_75 hy_105 hp_105 hc_105 hi_105 hd_105 r_m_7_175 rfl rfl hs_105 (by decide +kernel) rfl : e_Sn 75 62 (o_callI 105 1 1 65)) t_105_0 t_75_65
noncomputable def n_75_61 : e_Y := u_old (o_dup 62) n_75_62
theorem t_75_61 : e_Sn 75 61 (e_un n_75_61) := u_oldT (s_dup hq_75 (by decide +kernel) rfl : e_Sn 75 61 (o_dup 62)) t_75_62 e_cg_dup
noncomputable def n_75_58 : e_Y := u_tab (o_new 19 3 ef_19 61)
theorem t_75_58 : e_Sn 75 58 (e_un n_75_58) := u_tabT (s_new (index := 9) (ci := 19) (N := 3) (C := er_19) (T := et_19) (ty0 := ey_19) (fv := eg_19) hq_75 ho_75 rfl ei_19 eo_19 r_m_7_173 r_m_7_174 r_m_1_18 eh_19 rfl (e_newrel ek_19) (by decide +kernel) rfl : e_Sn 75 58 (o_new 19 3 ef_19 61))
noncomputable def n_75_57 : e_Y := u_ld f_okA f_l0 n_75_58
theorem t_75_57 : e_Sn 75 57 (e_un n_75_57) := u_ldAT f_l0_eq (s_aload (i := .aload_n 0) (len := 1) hq_75 (by decide +kernel) rfl (.inr ⟨0, rfl, rfl, rfl⟩) : e_Sn 75 57 (o_load e_okR 0 58)) t_75_58
noncomputable def n_75_54 : e_Y := u_putf 14 4 f_okA (u_old (o_putf (e_f1 14 4) e_okR 57) n_75_57) n_75_57
theorem t_75_54 : e_Sn 75 54 (e_un n_75_54) := u_putfT (fun _ => f_okA_eq) (s_putf (ty0 := ey_14) (ok := e_okR) (C := er_14) (T := et_14) (N := 13) (ref := "PlateroomprinterModel$Machine") (index := 34) (ci := 14) (k := 4) hq_75 ho_75 ⟨rfl, by decide, ei_14, r_m_8_85, .inl rfl⟩ eo_14 en_14 e_oksR (.inl rfl) (by decide +kernel) rfl : e_Sn 75 54 (o_putf (e_f1 14 4) e_okR 57)) t_75_57
noncomputable def n_75_51 : e_Y := u_callI 105 1 20 1 n_105_0 n_75_54
theorem t_75_51 : e_Sn 75 51 (e_un n_75_51) := u_callIT rfl (s_callI (index := 11) hq_75 ho_75 hy_105 hp_105 hc_105 hi_105 hd_105 r_m_7_175 rfl rfl hs_105 (by decide +kernel) rfl : e_Sn 75 51 (o_callI 105 1 1 54)) t_105_0 t_75_54
noncomputable def n_75_50 : e_Y := u_old (o_dup 51) n_75_51
theorem t_75_50 : e_Sn 75 50 (e_un n_75_50) := u_oldT (s_dup hq_75 (by decide +kernel) rfl : e_Sn 75 50 (o_dup 51)) t_75_51 e_cg_dup
noncomputable def n_75_47 : e_Y := u_tab (o_new 19 3 ef_19 50)
theorem t_75_47 : e_Sn 75 47 (e_un n_75_47) := u_tabT (s_new (index := 9) (ci := 19) (N := 3) (C := er_19) (T := et_19) (ty0 := ey_19) (fv := eg_19) hq_75 ho_75 rfl ei_19 eo_19 r_m_7_173 r_m_7_174 r_m_1_18 eh_19 rfl (e_newrel ek_19) (by decide +kernel) rfl : e_Sn 75 47 (o_new 19 3 ef_19 50))
noncomputable def n_75_46 : e_Y := u_ld f_okA f_l0 n_75_47
theorem t_75_46 : e_Sn 75 46 (e_un n_75_46) := u_ldAT f_l0_eq (s_aload (i := .aload_n 0) (len := 1) hq_75 (by decide +kernel) rfl (.inr ⟨0, rfl, rfl, rfl⟩) : e_Sn 75 46 (o_load e_okR 0 47)) t_75_47
noncomputable def n_75_43 : e_Y := u_putf 14 3 f_okA (u_old (o_putf (e_f1 14 3) e_okR 46) n_75_46) n_75_46
theorem t_75_43 : e_Sn 75 43 (e_un n_75_43) := u_putfT (fun _ => f_okA_eq) (s_putf (ty0 := ey_14) (ok := e_okR) (C := er_14) (T := et_14) (N := 13) (ref := "PlateroomprinterModel$Machine") (index := 31) (ci := 14) (k := 3) hq_75 ho_75 ⟨rfl, by decide, ei_14, r_m_8_82, .inl rfl⟩ eo_14 en_14 e_oksR (.inl rfl) (by decide +kernel) rfl : e_Sn 75 43 (o_putf (e_f1 14 3) e_okR 46)) t_75_46
noncomputable def n_75_40 : e_Y := u_callI 105 1 20 1 n_105_0 n_75_43
theorem t_75_40 : e_Sn 75 40 (e_un n_75_40) := u_callIT rfl (s_callI (index := 11) hq_75 ho_75 hy_105 hp_105 hc_105 hi_105 hd_105 r_m_7_175 rfl rfl hs_105 (by decide +kernel) rfl : e_Sn 75 40 (o_callI 105 1 1 43)) t_105_0 t_75_43
noncomputable def n_75_39 : e_Y := u_old (o_dup 40) n_75_40
theorem t_75_39 : e_Sn 75 39 (e_un n_75_39) := u_oldT (s_dup hq_75 (by decide +kernel) rfl : e_Sn 75 39 (o_dup 40)) t_75_40 e_cg_dup
noncomputable def n_75_36 : e_Y := u_tab (o_new 19 3 ef_19 39)
theorem t_75_36 : e_Sn 75 36 (e_un n_75_36) := u_tabT (s_new (index := 9) (ci := 19) (N := 3) (C := er_19) (T := et_19) (ty0 := ey_19) (fv := eg_19) hq_75 ho_75 rfl ei_19 eo_19 r_m_7_173 r_m_7_174 r_m_1_18 eh_19 rfl (e_newrel ek_19) (by decide +kernel) rfl : e_Sn 75 36 (o_new 19 3 ef_19 39))
noncomputable def n_75_35 : e_Y := u_ld f_okA f_l0 n_75_36
theorem t_75_35 : e_Sn 75 35 (e_un n_75_35) := u_ldAT f_l0_eq (s_aload (i := .aload_n 0) (len := 1) hq_75 (by decide +kernel) rfl (.inr ⟨0, rfl, rfl, rfl⟩) : e_Sn 75 35 (o_load e_okR 0 36)) t_75_36
noncomputable def n_75_32 : e_Y := u_putf 14 2 f_okA (u_old (o_putf (e_f1 14 2) e_okR 35) n_75_35) n_75_35
theorem t_75_32 : e_Sn 75 32 (e_un n_75_32) := u_putfT (fun _ => f_okA_eq) (s_putf (ty0 := ey_14) (ok := e_okR) (C := er_14) (T := et_14) (N := 13) (ref := "PlateroomprinterModel$Machine") (index := 27) (ci := 14) (k := 2) hq_75 ho_75 ⟨rfl, by decide, ei_14, r_m_8_79, .inl rfl⟩ eo_14 en_14 e_oksR (.inl rfl) (by decide +kernel) rfl : e_Sn 75 32 (o_putf (e_f1 14 2) e_okR 35)) t_75_35
noncomputable def n_75_29 : e_Y := u_callI 99 2 21 1 n_99_0 n_75_32
theorem t_75_29 : e_Sn 75 29 (e_un n_75_29) := u_callIT rfl (s_callI (index := 26) hq_75 ho_75 hy_99 hp_99 hc_99 hi_99 hd_99 (r_k7 (List.mem_of_getElem? (i := 206) (by decide +kernel))) rfl rfl hs_99 (by decide +kernel) rfl : e_Sn 75 29 (o_callI 99 2 1 32)) t_99_0 t_75_32
noncomputable def n_75_28 : e_Y := u_old (o_dup 29) n_75_29
theorem t_75_28 : e_Sn 75 28 (e_un n_75_28) := u_oldT (s_dup hq_75 (by decide +kernel) rfl : e_Sn 75 28 (o_dup 29)) t_75_29 e_cg_dup
noncomputable def n_75_25 : e_Y := u_tab (o_new 17 6 ef_17 28)
theorem t_75_25 : e_Sn 75 25 (e_un n_75_25) := u_tabT (s_new (index := 24) (ci := 17) (N := 6) (C := er_17) (T := et_17) (ty0 := ey_17) (fv := eg_17) hq_75 ho_75 rfl ei_17 eo_17 (r_k7 (List.mem_of_getElem? (i := 204) (by decide +kernel))) r_m_7_205 r_m_1_19 eh_17 rfl (e_newrel ek_17) (by decide +kernel) rfl : e_Sn 75 25 (o_new 17 6 ef_17 28))
noncomputable def n_75_24 : e_Y := u_ld f_okA f_l0 n_75_25
theorem t_75_24 : e_Sn 75 24 (e_un n_75_24) := u_ldAT f_l0_eq (s_aload (i := .aload_n 0) (len := 1) hq_75 (by decide +kernel) rfl (.inr ⟨0, rfl, rfl, rfl⟩) : e_Sn 75 24 (o_load e_okR 0 25)) t_75_25
noncomputable def n_75_21 : e_Y := u_putf 14 1 f_okA (u_old (o_putf (e_f1 14 1) e_okR 24) n_75_24) n_75_24
theorem t_75_21 : e_Sn 75 21 (e_un n_75_21) := u_putfT (fun _ => f_okA_eq) (s_putf (ty0 := ey_14) (ok := e_okR) (C := er_14) (T := et_14) (N := 13) (ref := "PlateroomprinterModel$Machine") (index := 20) (ci := 14) (k := 1) hq_75 ho_75 ⟨rfl, by decide, ei_14, r_m_8_76, .inl rfl⟩ eo_14 en_14 e_oksA (.inl rfl) (by decide +kernel) rfl : e_Sn 75 21 (o_putf (e_f1 14 1) e_okR 24)) t_75_24
noncomputable def n_75_18 : e_Y := u_tab (o_newa 6 e_N 21)
theorem t_75_18 : e_Sn 75 18 (e_un n_75_18) := u_tabT (s_newR (tc := 3) (index := 18) (E := "PlateroomprinterModel$Item") rfl ho_75 (r_k7 (List.mem_of_getElem? (i := 202) (by decide +kernel))) (fun s h => h _ (List.mem_filter.mpr ⟨(r_k7 (List.mem_of_getElem? (i := 203) (by decide +kernel))), rfl⟩)) hq_75 (by decide +kernel) rfl : e_Sn 75 18 (o_newa 6 e_N 21))
noncomputable def n_75_16 : e_Y := u_push (.inl 2147483658) n_75_18
theorem t_75_16 : e_Sn 75 16 (e_un n_75_16) := u_pushT (s_bipush (n := (10)) hq_75 (by decide +kernel) rfl ⟨by decide +kernel, by decide +kernel⟩ : e_Sn 75 16 (o_push (.inl 2147483658) 18)) t_75_18
noncomputable def n_75_15 : e_Y := u_ld f_okA f_l0 n_75_16
theorem t_75_15 : e_Sn 75 15 (e_un n_75_15) := u_ldAT f_l0_eq (s_aload (i := .aload_n 0) (len := 1) hq_75 (by decide +kernel) rfl (.inr ⟨0, rfl, rfl, rfl⟩) : e_Sn 75 15 (o_load e_okR 0 16)) t_75_16
noncomputable def n_75_12 : e_Y := u_putf 14 0 f_okA (u_old (o_putf (e_f1 14 0) e_okR 15) n_75_15) n_75_15
theorem t_75_12 : e_Sn 75 12 (e_un n_75_12) := u_putfT (fun _ => f_okA_eq) (s_putf (ty0 := ey_14) (ok := e_okR) (C := er_14) (T := et_14) (N := 13) (ref := "PlateroomprinterModel$Machine") (index := 12) (ci := 14) (k := 0) hq_75 ho_75 ⟨rfl, by decide, ei_14, r_m_8_73, .inl rfl⟩ eo_14 en_14 e_oksR (.inl rfl) (by decide +kernel) rfl : e_Sn 75 12 (o_putf (e_f1 14 0) e_okR 15)) t_75_15
noncomputable def n_75_9 : e_Y := u_callI 105 1 20 1 n_105_0 n_75_12
theorem t_75_9 : e_Sn 75 9 (e_un n_75_9) := u_callIT rfl (s_callI (index := 11) hq_75 ho_75 hy_105 hp_105 hc_105 hi_105 hd_105 r_m_7_175 rfl rfl hs_105 (by decide +kernel) rfl : e_Sn 75 9 (o_callI 105 1 1 12)) t_105_0 t_75_12
noncomputable def n_75_8 : e_Y := u_old (o_dup 9) n_75_9
theorem t_75_8 : e_Sn 75 8 (e_un n_75_8) := u_oldT (s_dup hq_75 (by decide +kernel) rfl : e_Sn 75 8 (o_dup 9)) t_75_9 e_cg_dup
noncomputable def n_75_5 : e_Y := u_tab (o_new 19 3 ef_19 8)
theorem t_75_5 : e_Sn 75 5 (e_un n_75_5) := u_tabT (s_new (index := 9) (ci := 19) (N := 3) (C := er_19) (T := et_19) (ty0 := ey_19) (fv := eg_19) hq_75 ho_75 rfl ei_19 eo_19 r_m_7_173 r_m_7_174 r_m_1_18 eh_19 rfl (e_newrel ek_19) (by decide +kernel) rfl : e_Sn 75 5 (o_new 19 3 ef_19 8))
noncomputable def n_75_4 : e_Y := u_ld f_okA f_l0 n_75_5
theorem t_75_4 : e_Sn 75 4 (e_un n_75_4) := u_ldAT f_l0_eq (s_aload (i := .aload_n 0) (len := 1) hq_75 (by decide +kernel) rfl (.inr ⟨0, rfl, rfl, rfl⟩) : e_Sn 75 4 (o_load e_okR 0 5)) t_75_5
noncomputable def n_75_1 : e_Y := u_tab (o_oinit 4)
theorem t_75_1 : e_Sn 75 1 (e_un n_75_1) := u_tabT (s_oinit (idx := 3) hq_75 ho_75 (r_k7 (List.mem_of_getElem? (i := 172) (by decide +kernel))) r_m_1_53 r_m_1_54 (by decide +kernel) rfl : e_Sn 75 1 (o_oinit 4))
noncomputable def n_75_0 : e_Y := u_ld f_okA f_l0 n_75_1
theorem t_75_0 : e_Sn 75 0 (e_un n_75_0) := u_ldAT f_l0_eq (s_aload (i := .aload_n 0) (len := 1) hq_75 (by decide +kernel) rfl (.inr ⟨0, rfl, rfl, rfl⟩) : e_Sn 75 0 (o_load e_okR 0 1)) t_75_1
noncomputable def e_tb_75 : e_X := (e_br 39 (e_br 8 (e_br 4 (e_lf 0 (e_un n_75_0)) (e_lf 4 (e_un n_75_4))) (e_br 21 (e_lf 8 (e_un n_75_8)) (e_br 28 (e_lf 21 (e_un n_75_21)) (e_lf 28 (e_un n_75_28))))) (e_br 74 (e_br 50 (e_lf 39 (e_un n_75_39)) (e_br 61 (e_lf 50 (e_un n_75_50)) (e_lf 61 (e_un n_75_61)))) (e_br 82 (e_lf 74 (e_un n_75_74)) (e_br 87 (e_lf 82 (e_un n_75_82)) (e_lf 87 (e_un n_75_87))))))
theorem e_tk_75 : e_Tb 75 e_tb_75 := (e_brT (e_brT (e_brT (e_lfT t_75_0) (e_lfT t_75_4)) (e_brT (e_lfT t_75_8) (e_brT (e_lfT t_75_21) (e_lfT t_75_28)))) (e_brT (e_brT (e_lfT t_75_39) (e_brT (e_lfT t_75_50) (e_lfT t_75_61))) (e_brT (e_lfT t_75_74) (e_brT (e_lfT t_75_82) (e_lfT t_75_87)))))
theorem hq_61 : (e_ml[61]?).map (·.2.1) = some prog_14_method_1_code := Eq.trans (congrArg (Option.map (fun e => e.2.1)) hy_61) rfl
theorem ho_61 : (e_ml[61]?).map (·.1.cls) = some "PlateroomprinterModel" := Eq.trans (congrArg (Option.map (fun e => e.1.cls)) hy_61) rfl
theorem hr_61 : (e_ml[61]?).map (·.2.2.2) = some none := Eq.trans (congrArg (Option.map (fun e => e.2.2.2)) hy_61) rfl
noncomputable def n_61_45 : e_Y := u_retV
theorem t_61_45 : e_Sn 61 45 (e_un n_61_45) := u_retVT (s_vret hq_61 hr_61 (by decide +kernel) : e_Sn 61 45 (o_retv))
noncomputable def n_61_42 : e_Y := u_putf 12 3 f_okA (u_old (o_putf (e_f1 12 3) e_okR 45) n_61_45) n_61_45
theorem t_61_42 : e_Sn 61 42 (e_un n_61_42) := u_putfT (fun _ => f_okA_eq) (s_putf (ty0 := ey_12) (ok := e_okR) (C := er_12) (T := et_12) (N := 5) (ref := "PlateroomprinterModel") (index := 23) (ci := 12) (k := 3) hq_61 ho_61 ⟨rfl, by decide, ei_12, r_m_8_144, .inl rfl⟩ eo_12 en_12 e_oksA (.inr ⟨rfl, rfl, rfl⟩) (by decide +kernel) rfl : e_Sn 61 42 (o_putf (e_f1 12 3) e_okR 45)) t_61_45
noncomputable def n_61_41 : e_Y := u_ast 0 f_okI (u_old (o_ast 0 e_okI 42) n_61_42) n_61_42
theorem t_61_41 : e_Sn 61 41 (e_un n_61_41) := u_astT (fun _ => f_okI_eq) (s_iast hq_61 (by decide +kernel) rfl : e_Sn 61 41 (o_ast 0 e_okI 42)) t_61_42
noncomputable def n_61_40 : e_Y := u_push (.inl 2147483647) n_61_41
theorem t_61_40 : e_Sn 61 40 (e_un n_61_40) := u_pushT (s_iconst (n := (-1)) hq_61 (by decide +kernel) rfl ⟨by decide +kernel, by decide +kernel⟩ : e_Sn 61 40 (o_push (.inl 2147483647) 41)) t_61_41
noncomputable def n_61_39 : e_Y := u_push (.inl 2147483650) n_61_40
theorem t_61_39 : e_Sn 61 39 (e_un n_61_39) := u_pushT (s_iconst (n := (2)) hq_61 (by decide +kernel) rfl ⟨by decide +kernel, by decide +kernel⟩ : e_Sn 61 39 (o_push (.inl 2147483650) 40)) t_61_40
noncomputable def n_61_38 : e_Y := u_old (o_dup 39) n_61_39
theorem t_61_38 : e_Sn 61 38 (e_un n_61_38) := u_oldT (s_dup hq_61 (by decide +kernel) rfl : e_Sn 61 38 (o_dup 39)) t_61_39 e_cg_dup
noncomputable def n_61_37 : e_Y := u_ast 0 f_okI (u_old (o_ast 0 e_okI 38) n_61_38) n_61_38
theorem t_61_37 : e_Sn 61 37 (e_un n_61_37) := u_astT (fun _ => f_okI_eq) (s_iast hq_61 (by decide +kernel) rfl : e_Sn 61 37 (o_ast 0 e_okI 38)) t_61_38
noncomputable def n_61_36 : e_Y := u_push (.inl 2147483647) n_61_37
theorem t_61_36 : e_Sn 61 36 (e_un n_61_36) := u_pushT (s_iconst (n := (-1)) hq_61 (by decide +kernel) rfl ⟨by decide +kernel, by decide +kernel⟩ : e_Sn 61 36 (o_push (.inl 2147483647) 37)) t_61_37
noncomputable def n_61_35 : e_Y := u_push (.inl 2147483649) n_61_36
theorem t_61_35 : e_Sn 61 35 (e_un n_61_35) := u_pushT (s_iconst (n := (1)) hq_61 (by decide +kernel) rfl ⟨by decide +kernel, by decide +kernel⟩ : e_Sn 61 35 (o_push (.inl 2147483649) 36)) t_61_36
noncomputable def n_61_34 : e_Y := u_old (o_dup 35) n_61_35
theorem t_61_34 : e_Sn 61 34 (e_un n_61_34) := u_oldT (s_dup hq_61 (by decide +kernel) rfl : e_Sn 61 34 (o_dup 35)) t_61_35 e_cg_dup
noncomputable def n_61_33 : e_Y := u_ast 0 f_okI (u_old (o_ast 0 e_okI 34) n_61_34) n_61_34
theorem t_61_33 : e_Sn 61 33 (e_un n_61_33) := u_astT (fun _ => f_okI_eq) (s_iast hq_61 (by decide +kernel) rfl : e_Sn 61 33 (o_ast 0 e_okI 34)) t_61_34
noncomputable def n_61_32 : e_Y := u_push (.inl 2147483648) n_61_33
theorem t_61_32 : e_Sn 61 32 (e_un n_61_32) := u_pushT (s_iconst (n := (0)) hq_61 (by decide +kernel) rfl ⟨by decide +kernel, by decide +kernel⟩ : e_Sn 61 32 (o_push (.inl 2147483648) 33)) t_61_33
noncomputable def n_61_31 : e_Y := u_push (.inl 2147483648) n_61_32
theorem t_61_31 : e_Sn 61 31 (e_un n_61_31) := u_pushT (s_iconst (n := (0)) hq_61 (by decide +kernel) rfl ⟨by decide +kernel, by decide +kernel⟩ : e_Sn 61 31 (o_push (.inl 2147483648) 32)) t_61_32
noncomputable def n_61_30 : e_Y := u_old (o_dup 31) n_61_31
theorem t_61_30 : e_Sn 61 30 (e_un n_61_30) := u_oldT (s_dup hq_61 (by decide +kernel) rfl : e_Sn 61 30 (o_dup 31)) t_61_31 e_cg_dup
noncomputable def n_61_28 : e_Y := u_tab (o_newa 0 (e_I 2147483648) 30)
theorem t_61_28 : e_Sn 61 28 (e_un n_61_28) := u_tabT (s_newI r_m_1_78 hq_61 (by decide +kernel) rfl : e_Sn 61 28 (o_newa 0 (e_I 2147483648) 30))
noncomputable def n_61_27 : e_Y := u_push (.inl 2147483651) n_61_28
theorem t_61_27 : e_Sn 61 27 (e_un n_61_27) := u_pushT (s_iconst (n := (3)) hq_61 (by decide +kernel) rfl ⟨by decide +kernel, by decide +kernel⟩ : e_Sn 61 27 (o_push (.inl 2147483651) 28)) t_61_28
noncomputable def n_61_26 : e_Y := u_ld f_okA f_l0 n_61_27
theorem t_61_26 : e_Sn 61 26 (e_un n_61_26) := u_ldAT f_l0_eq (s_aload (i := .aload_n 0) (len := 1) hq_61 (by decide +kernel) rfl (.inr ⟨0, rfl, rfl, rfl⟩) : e_Sn 61 26 (o_load e_okR 0 27)) t_61_27
noncomputable def n_61_23 : e_Y := u_putf 12 2 f_okA (u_old (o_putf (e_f1 12 2) e_okR 26) n_61_26) n_61_26
theorem t_61_23 : e_Sn 61 23 (e_un n_61_23) := u_putfT (fun _ => f_okA_eq) (s_putf (ty0 := ey_12) (ok := e_okR) (C := er_12) (T := et_12) (N := 5) (ref := "PlateroomprinterModel") (index := 19) (ci := 12) (k := 2) hq_61 ho_61 ⟨rfl, by decide, ei_12, r_m_8_143, .inl rfl⟩ eo_12 en_12 e_oksR (.inl rfl) (by decide +kernel) rfl : e_Sn 61 23 (o_putf (e_f1 12 2) e_okR 26)) t_61_26
noncomputable def n_61_20 : e_Y := u_callI 105 1 20 1 n_105_0 n_61_23
theorem t_61_20 : e_Sn 61 20 (e_un n_61_20) := u_callIT rfl (s_callI (index := 18) hq_61 ho_61 hy_105 hp_105 hc_105 hi_105 hd_105 r_m_8_140 rfl rfl hs_105 (by decide +kernel) rfl : e_Sn 61 20 (o_callI 105 1 1 23)) t_105_0 t_61_23
noncomputable def n_61_19 : e_Y := u_old (o_dup 20) n_61_20
theorem t_61_19 : e_Sn 61 19 (e_un n_61_19) := u_oldT (s_dup hq_61 (by decide +kernel) rfl : e_Sn 61 19 (o_dup 20)) t_61_20 e_cg_dup
noncomputable def n_61_16 : e_Y := u_tab (o_new 19 3 ef_19 19)
theorem t_61_16 : e_Sn 61 16 (e_un n_61_16) := u_tabT (s_new (index := 16) (ci := 19) (N := 3) (C := er_19) (T := et_19) (ty0 := ey_19) (fv := eg_19) hq_61 ho_61 rfl ei_19 eo_19 r_m_8_139 r_m_7_174 r_m_1_18 eh_19 rfl (e_newrel ek_19) (by decide +kernel) rfl : e_Sn 61 16 (o_new 19 3 ef_19 19))
noncomputable def n_61_15 : e_Y := u_ld f_okA f_l0 n_61_16
theorem t_61_15 : e_Sn 61 15 (e_un n_61_15) := u_ldAT f_l0_eq (s_aload (i := .aload_n 0) (len := 1) hq_61 (by decide +kernel) rfl (.inr ⟨0, rfl, rfl, rfl⟩) : e_Sn 61 15 (o_load e_okR 0 16)) t_61_16
noncomputable def n_61_12 : e_Y := u_putf 12 1 f_okA (u_old (o_putf (e_f1 12 1) e_okR 15) n_61_15) n_61_15
theorem t_61_12 : e_Sn 61 12 (e_un n_61_12) := u_putfT (fun _ => f_okA_eq) (s_putf (ty0 := ey_12) (ok := e_okR) (C := er_12) (T := et_12) (N := 5) (ref := "PlateroomprinterModel") (index := 10) (ci := 12) (k := 1) hq_61 ho_61 ⟨rfl, by decide, ei_12, r_m_8_142, .inl rfl⟩ eo_12 en_12 e_oksR (.inl rfl) (by decide +kernel) rfl : e_Sn 61 12 (o_putf (e_f1 12 1) e_okR 15)) t_61_15
noncomputable def n_61_9 : e_Y := u_callI 75 2 21 1 n_75_0 n_61_12
theorem t_61_9 : e_Sn 61 9 (e_un n_61_9) := u_callIT rfl (s_callI (index := 9) hq_61 ho_61 hy_75 hp_75 hc_75 hi_75 hd_75 (r_k7 (List.mem_of_getElem? (i := 169) (by decide +kernel))) rfl rfl hs_75 (by decide +kernel) rfl : e_Sn 61 9 (o_callI 75 2 1 12)) t_75_0 t_61_12
noncomputable def n_61_8 : e_Y := u_old (o_dup 9) n_61_9
theorem t_61_8 : e_Sn 61 8 (e_un n_61_8) := u_oldT (s_dup hq_61 (by decide +kernel) rfl : e_Sn 61 8 (o_dup 9)) t_61_9 e_cg_dup
noncomputable def n_61_5 : e_Y := u_tab (o_new 14 13 ef_14 8)
theorem t_61_5 : e_Sn 61 5 (e_un n_61_5) := u_tabT (s_new (index := 7) (ci := 14) (N := 13) (C := er_14) (T := et_14) (ty0 := ey_14) (fv := eg_14) hq_61 ho_61 rfl ei_14 eo_14 (r_k7 (List.mem_of_getElem? (i := 167) (by decide +kernel))) r_m_7_168 r_m_1_15 eh_14 rfl (e_newrel ek_14) (by decide +kernel) rfl : e_Sn 61 5 (o_new 14 13 ef_14 8))
noncomputable def n_61_4 : e_Y := u_ld f_okA f_l0 n_61_5
theorem t_61_4 : e_Sn 61 4 (e_un n_61_4) := u_ldAT f_l0_eq (s_aload (i := .aload_n 0) (len := 1) hq_61 (by decide +kernel) rfl (.inr ⟨0, rfl, rfl, rfl⟩) : e_Sn 61 4 (o_load e_okR 0 5)) t_61_5
noncomputable def n_61_1 : e_Y := u_tab (o_oinit 4)
theorem t_61_1 : e_Sn 61 1 (e_un n_61_1) := u_tabT (s_oinit (idx := 1) hq_61 ho_61 (r_k7 (List.mem_of_getElem? (i := 166) (by decide +kernel))) r_m_1_53 r_m_1_54 (by decide +kernel) rfl : e_Sn 61 1 (o_oinit 4))
noncomputable def n_61_0 : e_Y := u_ld f_okA f_l0 n_61_1
theorem t_61_0 : e_Sn 61 0 (e_un n_61_0) := u_ldAT f_l0_eq (s_aload (i := .aload_n 0) (len := 1) hq_61 (by decide +kernel) rfl (.inr ⟨0, rfl, rfl, rfl⟩) : e_Sn 61 0 (o_load e_okR 0 1)) t_61_1
noncomputable def e_tb_61 : e_X := (e_br 8 (e_br 4 (e_lf 0 (e_un n_61_0)) (e_lf 4 (e_un n_61_4))) (e_br 19 (e_lf 8 (e_un n_61_8)) (e_br 30 (e_lf 19 (e_un n_61_19)) (e_lf 30 (e_un n_61_30)))))
theorem e_tk_61 : e_Tb 61 e_tb_61 := (e_brT (e_brT (e_lfT t_61_0) (e_lfT t_61_4)) (e_brT (e_lfT t_61_8) (e_brT (e_lfT t_61_19) (e_lfT t_61_30))))
noncomputable def n_116_4 : e_Y := u_retI
theorem t_116_4 : e_Sn 116 4 (e_un n_116_4) := u_retIT (s_iret hq_116 hr_116 (by decide +kernel) : e_Sn 116 4 (o_ret e_okI))
noncomputable def n_116_1 : e_Y := u_getf 19 1 (u_old (o_getf (e_f1 19 1) 4) n_116_4) n_116_4
theorem t_116_1 : e_Sn 116 1 (e_un n_116_1) := u_getfT (s_getf (C := er_19) (T := et_19) (N := 3) (ref := "java/util/ArrayList") (index := 48) (ci := 19) (k := 1) hq_116 ho_116 ⟨rfl, by decide, ei_19, r_m_7_190, .inl rfl⟩ (by decide +kernel) rfl : e_Sn 116 1 (o_getf (e_f1 19 1) 4)) t_116_4
noncomputable def n_116_0 : e_Y := u_ld f_okA f_l0 n_116_1
theorem t_116_0 : e_Sn 116 0 (e_un n_116_0) := u_ldAT f_l0_eq (s_aload (i := .aload_n 0) (len := 1) hq_116 (by decide +kernel) rfl (.inr ⟨0, rfl, rfl, rfl⟩) : e_Sn 116 0 (o_load e_okR 0 1)) t_116_1
noncomputable def e_tb_116 : e_X := (e_lf 0 (e_un n_116_0))
theorem e_tk_116 : e_Tb 116 e_tb_116 := (e_lfT t_116_0)
theorem hq_62 : (e_ml[62]?).map (·.2.1) = some prog_14_method_13_code := Eq.trans (congrArg (Option.map (fun e => e.2.1)) hy_62) rfl
theorem ho_62 : (e_ml[62]?).map (·.1.cls) = some "PlateroomprinterModel" := Eq.trans (congrArg (Option.map (fun e => e.1.cls)) hy_62) rfl
theorem hr_62 : (e_ml[62]?).map (·.2.2.2) = some (some (.object "java/util/ArrayList")) := Eq.trans (congrArg (Option.map (fun e => e.2.2.2)) hy_62) rfl
noncomputable def n_62_46 : e_Y := u_retA
theorem t_62_46 : e_Sn 62 46 (e_un n_62_46) := u_retAT (s_aret (.inl ⟨_, rfl⟩) hq_62 hr_62 (by decide +kernel) : e_Sn 62 46 (o_ret e_okR))
noncomputable def n_62_45 : e_Y := u_ld f_okA f_l3 n_62_46
theorem t_62_45 : e_Sn 62 45 (e_un n_62_45) := u_ldAT f_l3_eq (s_aload (i := .aload_n 3) (len := 1) hq_62 (by decide +kernel) rfl (.inr ⟨3, rfl, rfl, rfl⟩) : e_Sn 62 45 (o_load e_okR 3 46)) t_62_46
noncomputable def n_62_17 : e_Y := u_jmp y_ge (u_old2 (o_clt 20 45) 20 (u_at 20) n_62_45) (u_at 20) n_62_45
theorem t_62_17 : e_Sn 62 17 (e_un n_62_17) := u_cltT rfl (s_cge (off := (28)) hq_62 (by decide +kernel) rfl rfl : e_Sn 62 17 (o_clt 20 45)) u_atT t_62_45
noncomputable def n_62_14 : e_Y := u_callV 19 116 1 20 1 n_116_0 n_62_17
theorem t_62_14 : e_Sn 62 14 (e_un n_62_14) := u_callVT rfl (s_callV (ci := 19) (C := er_19) (T := et_19) (N := 3) (index := 74) hq_62 ho_62 hy_116 hp_116 hc_116 hi_116 hd_116 r_m_8_179 hs_116 r_m_8_181 rfl (by decide +kernel) rfl : e_Sn 62 14 (o_callV (e_s1 19 116 1) 1 17)) t_116_0 t_62_17
noncomputable def n_62_13 : e_Y := u_ld f_okA f_l0 n_62_14
theorem t_62_13 : e_Sn 62 13 (e_un n_62_13) := u_ldAT f_l0_eq (s_aload (i := .aload_n 0) (len := 1) hq_62 (by decide +kernel) rfl (.inr ⟨0, rfl, rfl, rfl⟩) : e_Sn 62 13 (o_load e_okR 0 14)) t_62_14
noncomputable def n_62_11 : e_Y := u_ld f_okI f_l4 n_62_13
theorem t_62_11 : e_Sn 62 11 (e_un n_62_11) := u_ldIT f_l4_eq (s_iload (i := .iload 4) (len := 2) hq_62 (by decide +kernel) rfl (.inl ⟨rfl, rfl⟩) : e_Sn 62 11 (o_load e_okI 4 13)) t_62_13
noncomputable def n_62_9 : e_Y := u_st f_okI f_s4 n_62_11
theorem t_62_9 : e_Sn 62 9 (e_un n_62_9) := u_stIT (fun _ _ _ => f_s4_eq) (s_istore (i := .istore 4) (len := 2) hq_62 (by decide +kernel) rfl (.inl ⟨rfl, rfl⟩) : e_Sn 62 9 (o_store e_okI 4 11)) t_62_11
noncomputable def n_62_8 : e_Y := u_push (.inl 2147483648) n_62_9
theorem t_62_8 : e_Sn 62 8 (e_un n_62_8) := u_pushT (s_iconst (n := (0)) hq_62 (by decide +kernel) rfl ⟨by decide +kernel, by decide +kernel⟩ : e_Sn 62 8 (o_push (.inl 2147483648) 9)) t_62_9
noncomputable def n_62_7 : e_Y := u_st f_okA f_s3 n_62_8
theorem t_62_7 : e_Sn 62 7 (e_un n_62_7) := u_stAT (fun _ _ _ => f_s3_eq) (s_astore (i := .astore_n 3) (len := 1) hq_62 (by decide +kernel) rfl (.inr ⟨3, rfl, rfl, rfl⟩) : e_Sn 62 7 (o_store e_okR 3 8)) t_62_8
noncomputable def n_62_4 : e_Y := u_callI 105 1 20 1 n_105_0 n_62_7
theorem t_62_4 : e_Sn 62 4 (e_un n_62_4) := u_callIT rfl (s_callI (index := 18) hq_62 ho_62 hy_105 hp_105 hc_105 hi_105 hd_105 r_m_8_140 rfl rfl hs_105 (by decide +kernel) rfl : e_Sn 62 4 (o_callI 105 1 1 7)) t_105_0 t_62_7
noncomputable def n_62_3 : e_Y := u_old (o_dup 4) n_62_4
theorem t_62_3 : e_Sn 62 3 (e_un n_62_3) := u_oldT (s_dup hq_62 (by decide +kernel) rfl : e_Sn 62 3 (o_dup 4)) t_62_4 e_cg_dup
noncomputable def n_62_0 : e_Y := u_tab (o_new 19 3 ef_19 3)
theorem t_62_0 : e_Sn 62 0 (e_un n_62_0) := u_tabT (s_new (index := 16) (ci := 19) (N := 3) (C := er_19) (T := et_19) (ty0 := ey_19) (fv := eg_19) hq_62 ho_62 rfl ei_19 eo_19 r_m_8_139 r_m_7_174 r_m_1_18 eh_19 rfl (e_newrel ek_19) (by decide +kernel) rfl : e_Sn 62 0 (o_new 19 3 ef_19 3))
noncomputable def e_tb_62 : e_X := (e_br 3 (e_lf 0 (e_un n_62_0)) (e_lf 3 (e_un n_62_3)))
theorem e_tk_62 : e_Tb 62 e_tb_62 := (e_brT (e_lfT t_62_0) (e_lfT t_62_3))
theorem hq_63 : (e_ml[63]?).map (·.2.1) = some prog_14_method_20_code := Eq.trans (congrArg (Option.map (fun e => e.2.1)) hy_63) rfl
theorem ho_63 : (e_ml[63]?).map (·.1.cls) = some "PlateroomprinterModel" := Eq.trans (congrArg (Option.map (fun e => e.1.cls)) hy_63) rfl
theorem hr_63 : (e_ml[63]?).map (·.2.2.2) = some (some (.array .int)) := Eq.trans (congrArg (Option.map (fun e => e.2.2.2)) hy_63) rfl
noncomputable def n_63_26 : e_Y := u_retA
theorem t_63_26 : e_Sn 63 26 (e_un n_63_26) := u_retAT (s_aret (.inr ⟨_, rfl⟩) hq_63 hr_63 (by decide +kernel) : e_Sn 63 26 (o_ret e_okR))
noncomputable def n_63_25 : e_Y := u_ld f_okA f_l1 n_63_26
theorem t_63_25 : e_Sn 63 25 (e_un n_63_25) := u_ldAT f_l1_eq (s_aload (i := .aload_n 1) (len := 1) hq_63 (by decide +kernel) rfl (.inr ⟨1, rfl, rfl, rfl⟩) : e_Sn 63 25 (o_load e_okR 1 26)) t_63_26
noncomputable def n_63_22 : e_Y := (u_at 7)
theorem t_63_22 : e_Sn 63 22 (e_un n_63_22) := u_gotoT (s_goto (off := (-15)) hq_63 (by decide +kernel) rfl : e_Sn 63 22 (o_goto 7)) u_atT
noncomputable def n_63_19 : e_Y := u_inc f_l2 f_s2 1 n_63_22
theorem t_63_19 : e_Sn 63 19 (e_un n_63_19) := u_incT f_l2_eq (fun _ _ _ => f_s2_eq) (s_iinc (zz := (1)) hq_63 (by decide +kernel) rfl (by decide +kernel) ⟨by decide, by decide⟩ : e_Sn 63 19 (o_iinc 2 1 22)) t_63_22
noncomputable def n_63_18 : e_Y := u_ast 0 f_okI (u_old (o_ast 0 e_okI 19) n_63_19) n_63_19
theorem t_63_18 : e_Sn 63 18 (e_un n_63_18) := u_astT (fun _ => f_okI_eq) (s_iast hq_63 (by decide +kernel) rfl : e_Sn 63 18 (o_ast 0 e_okI 19)) t_63_19
noncomputable def n_63_17 : e_Y := u_ald 0 (u_old (o_ald e_fcs 18) n_63_18) n_63_18
theorem t_63_17 : e_Sn 63 17 (e_un n_63_17) := u_aldT (s_iald hq_63 (by decide +kernel) rfl : e_Sn 63 17 (o_ald e_fcs 18)) t_63_18
noncomputable def n_63_16 : e_Y := u_ld f_okI f_l2 n_63_17
theorem t_63_16 : e_Sn 63 16 (e_un n_63_16) := u_ldIT f_l2_eq (s_iload (i := .iload_n 2) (len := 1) hq_63 (by decide +kernel) rfl (.inr ⟨2, rfl, rfl, rfl⟩) : e_Sn 63 16 (o_load e_okI 2 17)) t_63_17
noncomputable def n_63_15 : e_Y := u_ld f_okA f_l0 n_63_16
theorem t_63_15 : e_Sn 63 15 (e_un n_63_15) := u_ldAT f_l0_eq (s_aload (i := .aload_n 0) (len := 1) hq_63 (by decide +kernel) rfl (.inr ⟨0, rfl, rfl, rfl⟩) : e_Sn 63 15 (o_load e_okR 0 16)) t_63_16
noncomputable def n_63_14 : e_Y := u_ld f_okI f_l2 n_63_15
theorem t_63_14 : e_Sn 63 14 (e_un n_63_14) := u_ldIT f_l2_eq (s_iload (i := .iload_n 2) (len := 1) hq_63 (by decide +kernel) rfl (.inr ⟨2, rfl, rfl, rfl⟩) : e_Sn 63 14 (o_load e_okI 2 15)) t_63_15
noncomputable def n_63_13 : e_Y := u_ld f_okA f_l1 n_63_14
theorem t_63_13 : e_Sn 63 13 (e_un n_63_13) := u_ldAT f_l1_eq (s_aload (i := .aload_n 1) (len := 1) hq_63 (by decide +kernel) rfl (.inr ⟨1, rfl, rfl, rfl⟩) : e_Sn 63 13 (o_load e_okR 1 14)) t_63_14
noncomputable def n_63_10 : e_Y := u_jmp y_ge (u_old2 (o_clt 13 25) 13 n_63_13 n_63_25) n_63_13 n_63_25
theorem t_63_10 : e_Sn 63 10 (e_un n_63_10) := u_cltT rfl (s_cge (off := (15)) hq_63 (by decide +kernel) rfl rfl : e_Sn 63 10 (o_clt 13 25)) t_63_13 t_63_25
noncomputable def n_63_9 : e_Y := u_old (o_alen e_fcs 10) n_63_10
theorem t_63_9 : e_Sn 63 9 (e_un n_63_9) := u_oldT (s_alen hq_63 (by decide +kernel) rfl : e_Sn 63 9 (o_alen e_fcs 10)) t_63_10 (e_cg_alen e_fcs)
noncomputable def n_63_8 : e_Y := u_ld f_okA f_l0 n_63_9
theorem t_63_8 : e_Sn 63 8 (e_un n_63_8) := u_ldAT f_l0_eq (s_aload (i := .aload_n 0) (len := 1) hq_63 (by decide +kernel) rfl (.inr ⟨0, rfl, rfl, rfl⟩) : e_Sn 63 8 (o_load e_okR 0 9)) t_63_9
noncomputable def n_63_7 : e_Y := u_ld f_okI f_l2 n_63_8
theorem t_63_7 : e_Sn 63 7 (e_un n_63_7) := u_ldIT f_l2_eq (s_iload (i := .iload_n 2) (len := 1) hq_63 (by decide +kernel) rfl (.inr ⟨2, rfl, rfl, rfl⟩) : e_Sn 63 7 (o_load e_okI 2 8)) t_63_8
noncomputable def n_63_6 : e_Y := u_st f_okI f_s2 n_63_7
theorem t_63_6 : e_Sn 63 6 (e_un n_63_6) := u_stIT (fun _ _ _ => f_s2_eq) (s_istore (i := .istore_n 2) (len := 1) hq_63 (by decide +kernel) rfl (.inr ⟨2, rfl, rfl, rfl⟩) : e_Sn 63 6 (o_store e_okI 2 7)) t_63_7
noncomputable def n_63_5 : e_Y := u_push (.inl 2147483648) n_63_6
theorem t_63_5 : e_Sn 63 5 (e_un n_63_5) := u_pushT (s_iconst (n := (0)) hq_63 (by decide +kernel) rfl ⟨by decide +kernel, by decide +kernel⟩ : e_Sn 63 5 (o_push (.inl 2147483648) 6)) t_63_6
noncomputable def n_63_4 : e_Y := u_st f_okA f_s1 n_63_5
theorem t_63_4 : e_Sn 63 4 (e_un n_63_4) := u_stAT (fun _ _ _ => f_s1_eq) (s_astore (i := .astore_n 1) (len := 1) hq_63 (by decide +kernel) rfl (.inr ⟨1, rfl, rfl, rfl⟩) : e_Sn 63 4 (o_store e_okR 1 5)) t_63_5
noncomputable def n_63_2 : e_Y := u_tab (o_newa 0 (e_I 2147483648) 4)
theorem t_63_2 : e_Sn 63 2 (e_un n_63_2) := u_tabT (s_newI r_m_1_78 hq_63 (by decide +kernel) rfl : e_Sn 63 2 (o_newa 0 (e_I 2147483648) 4))
noncomputable def n_63_1 : e_Y := u_old (o_alen e_fcs 2) n_63_2
theorem t_63_1 : e_Sn 63 1 (e_un n_63_1) := u_oldT (s_alen hq_63 (by decide +kernel) rfl : e_Sn 63 1 (o_alen e_fcs 2)) t_63_2 (e_cg_alen e_fcs)
noncomputable def n_63_0 : e_Y := u_ld f_okA f_l0 n_63_1
theorem t_63_0 : e_Sn 63 0 (e_un n_63_0) := u_ldAT f_l0_eq (s_aload (i := .aload_n 0) (len := 1) hq_63 (by decide +kernel) rfl (.inr ⟨0, rfl, rfl, rfl⟩) : e_Sn 63 0 (o_load e_okR 0 1)) t_63_1
noncomputable def e_tb_63 : e_X := (e_br 4 (e_lf 0 (e_un n_63_0)) (e_br 7 (e_lf 4 (e_un n_63_4)) (e_lf 7 (e_un n_63_7))))
theorem e_tk_63 : e_Tb 63 e_tb_63 := (e_brT (e_lfT t_63_0) (e_brT (e_lfT t_63_4) (e_lfT t_63_7)))
theorem hq_64 : (e_ml[64]?).map (·.2.1) = some prog_14_method_19_code := Eq.trans (congrArg (Option.map (fun e => e.2.1)) hy_64) rfl
theorem ho_64 : (e_ml[64]?).map (·.1.cls) = some "PlateroomprinterModel" := Eq.trans (congrArg (Option.map (fun e => e.1.cls)) hy_64) rfl
theorem hr_64 : (e_ml[64]?).map (·.2.2.2) = some (some (.array .boolean)) := Eq.trans (congrArg (Option.map (fun e => e.2.2.2)) hy_64) rfl
noncomputable def n_64_26 : e_Y := u_retA
theorem t_64_26 : e_Sn 64 26 (e_un n_64_26) := u_retAT (s_aret (.inr ⟨_, rfl⟩) hq_64 hr_64 (by decide +kernel) : e_Sn 64 26 (o_ret e_okR))
noncomputable def n_64_25 : e_Y := u_ld f_okA f_l1 n_64_26
theorem t_64_25 : e_Sn 64 25 (e_un n_64_25) := u_ldAT f_l1_eq (s_aload (i := .aload_n 1) (len := 1) hq_64 (by decide +kernel) rfl (.inr ⟨1, rfl, rfl, rfl⟩) : e_Sn 64 25 (o_load e_okR 1 26)) t_64_26
noncomputable def n_64_22 : e_Y := (u_at 7)
theorem t_64_22 : e_Sn 64 22 (e_un n_64_22) := u_gotoT (s_goto (off := (-15)) hq_64 (by decide +kernel) rfl : e_Sn 64 22 (o_goto 7)) u_atT
noncomputable def n_64_19 : e_Y := u_inc f_l2 f_s2 1 n_64_22
theorem t_64_19 : e_Sn 64 19 (e_un n_64_19) := u_incT f_l2_eq (fun _ _ _ => f_s2_eq) (s_iinc (zz := (1)) hq_64 (by decide +kernel) rfl (by decide +kernel) ⟨by decide, by decide⟩ : e_Sn 64 19 (o_iinc 2 1 22)) t_64_22
noncomputable def n_64_18 : e_Y := u_old (o_ast 1 e_okZ 19) n_64_19
theorem t_64_18 : e_Sn 64 18 (e_un n_64_18) := u_oldT (s_zast hq_64 (by decide +kernel) rfl : e_Sn 64 18 (o_ast 1 e_okZ 19)) t_64_19 (e_cg_ast 1 e_okZ)
noncomputable def n_64_17 : e_Y := u_ald 1 (u_old (o_aldO 1 18) n_64_18) n_64_18
theorem t_64_17 : e_Sn 64 17 (e_un n_64_17) := u_aldOT (s_zald hq_64 (by decide +kernel) rfl : e_Sn 64 17 (o_aldO 1 18)) t_64_18
noncomputable def n_64_16 : e_Y := u_ld f_okI f_l2 n_64_17
theorem t_64_16 : e_Sn 64 16 (e_un n_64_16) := u_ldIT f_l2_eq (s_iload (i := .iload_n 2) (len := 1) hq_64 (by decide +kernel) rfl (.inr ⟨2, rfl, rfl, rfl⟩) : e_Sn 64 16 (o_load e_okI 2 17)) t_64_17
noncomputable def n_64_15 : e_Y := u_ld f_okA f_l0 n_64_16
theorem t_64_15 : e_Sn 64 15 (e_un n_64_15) := u_ldAT f_l0_eq (s_aload (i := .aload_n 0) (len := 1) hq_64 (by decide +kernel) rfl (.inr ⟨0, rfl, rfl, rfl⟩) : e_Sn 64 15 (o_load e_okR 0 16)) t_64_16
noncomputable def n_64_14 : e_Y := u_ld f_okI f_l2 n_64_15
theorem t_64_14 : e_Sn 64 14 (e_un n_64_14) := u_ldIT f_l2_eq (s_iload (i := .iload_n 2) (len := 1) hq_64 (by decide +kernel) rfl (.inr ⟨2, rfl, rfl, rfl⟩) : e_Sn 64 14 (o_load e_okI 2 15)) t_64_15
noncomputable def n_64_13 : e_Y := u_ld f_okA f_l1 n_64_14
theorem t_64_13 : e_Sn 64 13 (e_un n_64_13) := u_ldAT f_l1_eq (s_aload (i := .aload_n 1) (len := 1) hq_64 (by decide +kernel) rfl (.inr ⟨1, rfl, rfl, rfl⟩) : e_Sn 64 13 (o_load e_okR 1 14)) t_64_14
noncomputable def n_64_10 : e_Y := u_jmp y_ge (u_old2 (o_clt 13 25) 13 n_64_13 n_64_25) n_64_13 n_64_25
theorem t_64_10 : e_Sn 64 10 (e_un n_64_10) := u_cltT rfl (s_cge (off := (15)) hq_64 (by decide +kernel) rfl rfl : e_Sn 64 10 (o_clt 13 25)) t_64_13 t_64_25
noncomputable def n_64_9 : e_Y := u_old (o_alen e_fcs 10) n_64_10
theorem t_64_9 : e_Sn 64 9 (e_un n_64_9) := u_oldT (s_alen hq_64 (by decide +kernel) rfl : e_Sn 64 9 (o_alen e_fcs 10)) t_64_10 (e_cg_alen e_fcs)
noncomputable def n_64_8 : e_Y := u_ld f_okA f_l0 n_64_9
theorem t_64_8 : e_Sn 64 8 (e_un n_64_8) := u_ldAT f_l0_eq (s_aload (i := .aload_n 0) (len := 1) hq_64 (by decide +kernel) rfl (.inr ⟨0, rfl, rfl, rfl⟩) : e_Sn 64 8 (o_load e_okR 0 9)) t_64_9
noncomputable def n_64_7 : e_Y := u_ld f_okI f_l2 n_64_8
theorem t_64_7 : e_Sn 64 7 (e_un n_64_7) := u_ldIT f_l2_eq (s_iload (i := .iload_n 2) (len := 1) hq_64 (by decide +kernel) rfl (.inr ⟨2, rfl, rfl, rfl⟩) : e_Sn 64 7 (o_load e_okI 2 8)) t_64_8
noncomputable def n_64_6 : e_Y := u_st f_okI f_s2 n_64_7
theorem t_64_6 : e_Sn 64 6 (e_un n_64_6) := u_stIT (fun _ _ _ => f_s2_eq) (s_istore (i := .istore_n 2) (len := 1) hq_64 (by decide +kernel) rfl (.inr ⟨2, rfl, rfl, rfl⟩) : e_Sn 64 6 (o_store e_okI 2 7)) t_64_7
noncomputable def n_64_5 : e_Y := u_push (.inl 2147483648) n_64_6
theorem t_64_5 : e_Sn 64 5 (e_un n_64_5) := u_pushT (s_iconst (n := (0)) hq_64 (by decide +kernel) rfl ⟨by decide +kernel, by decide +kernel⟩ : e_Sn 64 5 (o_push (.inl 2147483648) 6)) t_64_6
noncomputable def n_64_4 : e_Y := u_st f_okA f_s1 n_64_5
theorem t_64_4 : e_Sn 64 4 (e_un n_64_4) := u_stAT (fun _ _ _ => f_s1_eq) (s_astore (i := .astore_n 1) (len := 1) hq_64 (by decide +kernel) rfl (.inr ⟨1, rfl, rfl, rfl⟩) : e_Sn 64 4 (o_store e_okR 1 5)) t_64_5
noncomputable def n_64_2 : e_Y := u_tab (o_newa 1 (e_I 2147483648) 4)
theorem t_64_2 : e_Sn 64 2 (e_un n_64_2) := u_tabT (s_newZ r_m_8_2 hq_64 (by decide +kernel) rfl : e_Sn 64 2 (o_newa 1 (e_I 2147483648) 4))
noncomputable def n_64_1 : e_Y := u_old (o_alen e_fcs 2) n_64_2
theorem t_64_1 : e_Sn 64 1 (e_un n_64_1) := u_oldT (s_alen hq_64 (by decide +kernel) rfl : e_Sn 64 1 (o_alen e_fcs 2)) t_64_2 (e_cg_alen e_fcs)
noncomputable def n_64_0 : e_Y := u_ld f_okA f_l0 n_64_1
theorem t_64_0 : e_Sn 64 0 (e_un n_64_0) := u_ldAT f_l0_eq (s_aload (i := .aload_n 0) (len := 1) hq_64 (by decide +kernel) rfl (.inr ⟨0, rfl, rfl, rfl⟩) : e_Sn 64 0 (o_load e_okR 0 1)) t_64_1
noncomputable def e_tb_64 : e_X := (e_br 4 (e_lf 0 (e_un n_64_0)) (e_br 7 (e_lf 4 (e_un n_64_4)) (e_lf 7 (e_un n_64_7))))
theorem e_tk_64 : e_Tb 64 e_tb_64 := (e_brT (e_lfT t_64_0) (e_brT (e_lfT t_64_4) (e_lfT t_64_7)))
theorem hq_65 : (e_ml[65]?).map (·.2.1) = some prog_14_method_30_code := Eq.trans (congrArg (Option.map (fun e => e.2.1)) hy_65) rfl
theorem ho_65 : (e_ml[65]?).map (·.1.cls) = some "PlateroomprinterModel" := Eq.trans (congrArg (Option.map (fun e => e.1.cls)) hy_65) rfl
theorem hr_65 : (e_ml[65]?).map (·.2.2.2) = some (some .int) := Eq.trans (congrArg (Option.map (fun e => e.2.2.2)) hy_65) rfl
noncomputable def n_65_22 : e_Y := u_retI
theorem t_65_22 : e_Sn 65 22 (e_un n_65_22) := u_retIT (s_iret hq_65 hr_65 (by decide +kernel) : e_Sn 65 22 (o_ret e_okI))
noncomputable def n_65_21 : e_Y := u_ld f_okI f_l1 n_65_22
theorem t_65_21 : e_Sn 65 21 (e_un n_65_21) := u_ldIT f_l1_eq (s_iload (i := .iload_n 1) (len := 1) hq_65 (by decide +kernel) rfl (.inr ⟨1, rfl, rfl, rfl⟩) : e_Sn 65 21 (o_load e_okI 1 22)) t_65_22
noncomputable def n_65_20 : e_Y := u_ast 0 f_okI (u_old (o_ast 0 e_okI 21) n_65_21) n_65_21
theorem t_65_20 : e_Sn 65 20 (e_un n_65_20) := u_astT (fun _ => f_okI_eq) (s_iast hq_65 (by decide +kernel) rfl : e_Sn 65 20 (o_ast 0 e_okI 21)) t_65_21
noncomputable def n_65_19 : e_Y := u_ld f_okI f_l3 n_65_20
theorem t_65_19 : e_Sn 65 19 (e_un n_65_19) := u_ldIT f_l3_eq (s_iload (i := .iload_n 3) (len := 1) hq_65 (by decide +kernel) rfl (.inr ⟨3, rfl, rfl, rfl⟩) : e_Sn 65 19 (o_load e_okI 3 20)) t_65_20
noncomputable def n_65_18 : e_Y := u_push (.inl 2147483650) n_65_19
theorem t_65_18 : e_Sn 65 18 (e_un n_65_18) := u_pushT (s_iconst (n := (2)) hq_65 (by decide +kernel) rfl ⟨by decide +kernel, by decide +kernel⟩ : e_Sn 65 18 (o_push (.inl 2147483650) 19)) t_65_19
noncomputable def n_65_15 : e_Y := u_getf 12 3 (u_old (o_getf (e_f1 12 3) 18) n_65_18) n_65_18
theorem t_65_15 : e_Sn 65 15 (e_un n_65_15) := u_getfT (s_getf (C := er_12) (T := et_12) (N := 5) (ref := "PlateroomprinterModel") (index := 23) (ci := 12) (k := 3) hq_65 ho_65 ⟨rfl, by decide, ei_12, r_m_8_144, .inl rfl⟩ (by decide +kernel) rfl : e_Sn 65 15 (o_getf (e_f1 12 3) 18)) t_65_18
noncomputable def n_65_14 : e_Y := u_ld f_okA f_l0 n_65_15
theorem t_65_14 : e_Sn 65 14 (e_un n_65_14) := u_ldAT f_l0_eq (s_aload (i := .aload_n 0) (len := 1) hq_65 (by decide +kernel) rfl (.inr ⟨0, rfl, rfl, rfl⟩) : e_Sn 65 14 (o_load e_okR 0 15)) t_65_15
noncomputable def n_65_13 : e_Y := u_ast 0 f_okI (u_old (o_ast 0 e_okI 14) n_65_14) n_65_14
theorem t_65_13 : e_Sn 65 13 (e_un n_65_13) := u_astT (fun _ => f_okI_eq) (s_iast hq_65 (by decide +kernel) rfl : e_Sn 65 13 (o_ast 0 e_okI 14)) t_65_14
noncomputable def n_65_12 : e_Y := u_ld f_okI f_l2 n_65_13
theorem t_65_12 : e_Sn 65 12 (e_un n_65_12) := u_ldIT f_l2_eq (s_iload (i := .iload_n 2) (len := 1) hq_65 (by decide +kernel) rfl (.inr ⟨2, rfl, rfl, rfl⟩) : e_Sn 65 12 (o_load e_okI 2 13)) t_65_13
noncomputable def n_65_11 : e_Y := u_push (.inl 2147483649) n_65_12
theorem t_65_11 : e_Sn 65 11 (e_un n_65_11) := u_pushT (s_iconst (n := (1)) hq_65 (by decide +kernel) rfl ⟨by decide +kernel, by decide +kernel⟩ : e_Sn 65 11 (o_push (.inl 2147483649) 12)) t_65_12
noncomputable def n_65_8 : e_Y := u_getf 12 3 (u_old (o_getf (e_f1 12 3) 11) n_65_11) n_65_11
theorem t_65_8 : e_Sn 65 8 (e_un n_65_8) := u_getfT (s_getf (C := er_12) (T := et_12) (N := 5) (ref := "PlateroomprinterModel") (index := 23) (ci := 12) (k := 3) hq_65 ho_65 ⟨rfl, by decide, ei_12, r_m_8_144, .inl rfl⟩ (by decide +kernel) rfl : e_Sn 65 8 (o_getf (e_f1 12 3) 11)) t_65_11
noncomputable def n_65_7 : e_Y := u_ld f_okA f_l0 n_65_8
theorem t_65_7 : e_Sn 65 7 (e_un n_65_7) := u_ldAT f_l0_eq (s_aload (i := .aload_n 0) (len := 1) hq_65 (by decide +kernel) rfl (.inr ⟨0, rfl, rfl, rfl⟩) : e_Sn 65 7 (o_load e_okR 0 8)) t_65_8
noncomputable def n_65_6 : e_Y := u_ast 0 f_okI (u_old (o_ast 0 e_okI 7) n_65_7) n_65_7
theorem t_65_6 : e_Sn 65 6 (e_un n_65_6) := u_astT (fun _ => f_okI_eq) (s_iast hq_65 (by decide +kernel) rfl : e_Sn 65 6 (o_ast 0 e_okI 7)) t_65_7
noncomputable def n_65_5 : e_Y := u_ld f_okI f_l1 n_65_6
theorem t_65_5 : e_Sn 65 5 (e_un n_65_5) := u_ldIT f_l1_eq (s_iload (i := .iload_n 1) (len := 1) hq_65 (by decide +kernel) rfl (.inr ⟨1, rfl, rfl, rfl⟩) : e_Sn 65 5 (o_load e_okI 1 6)) t_65_6
noncomputable def n_65_4 : e_Y := u_push (.inl 2147483648) n_65_5
theorem t_65_4 : e_Sn 65 4 (e_un n_65_4) := u_pushT (s_iconst (n := (0)) hq_65 (by decide +kernel) rfl ⟨by decide +kernel, by decide +kernel⟩ : e_Sn 65 4 (o_push (.inl 2147483648) 5)) t_65_5
noncomputable def n_65_1 : e_Y := u_getf 12 3 (u_old (o_getf (e_f1 12 3) 4) n_65_4) n_65_4
theorem t_65_1 : e_Sn 65 1 (e_un n_65_1) := u_getfT (s_getf (C := er_12) (T := et_12) (N := 5) (ref := "PlateroomprinterModel") (index := 23) (ci := 12) (k := 3) hq_65 ho_65 ⟨rfl, by decide, ei_12, r_m_8_144, .inl rfl⟩ (by decide +kernel) rfl : e_Sn 65 1 (o_getf (e_f1 12 3) 4)) t_65_4
noncomputable def n_65_0 : e_Y := u_ld f_okA f_l0 n_65_1
theorem t_65_0 : e_Sn 65 0 (e_un n_65_0) := u_ldAT f_l0_eq (s_aload (i := .aload_n 0) (len := 1) hq_65 (by decide +kernel) rfl (.inr ⟨0, rfl, rfl, rfl⟩) : e_Sn 65 0 (o_load e_okR 0 1)) t_65_1
noncomputable def e_tb_65 : e_X := (e_lf 0 (e_un n_65_0))
theorem e_tk_65 : e_Tb 65 e_tb_65 := (e_lfT t_65_0)
theorem hq_66 : (e_ml[66]?).map (·.2.1) = some prog_14_method_2_code := Eq.trans (congrArg (Option.map (fun e => e.2.1)) hy_66) rfl
theorem ho_66 : (e_ml[66]?).map (·.1.cls) = some "PlateroomprinterModel" := Eq.trans (congrArg (Option.map (fun e => e.1.cls)) hy_66) rfl
theorem hr_66 : (e_ml[66]?).map (·.2.2.2) = some (some .boolean) := Eq.trans (congrArg (Option.map (fun e => e.2.2.2)) hy_66) rfl
noncomputable def n_66_18 : e_Y := u_tab (o_ret e_okZ)
theorem t_66_18 : e_Sn 66 18 (e_un n_66_18) := u_tabT (s_zret hq_66 hr_66 (by decide +kernel) : e_Sn 66 18 (o_ret e_okZ))
noncomputable def n_66_14 : e_Y := n_66_18
theorem t_66_14 : e_Sn 66 14 (e_un n_66_14) := u_gotoT (s_goto (off := (4)) hq_66 (by decide +kernel) rfl : e_Sn 66 14 (o_goto 18)) t_66_18
noncomputable def n_66_13 : e_Y := u_push (.inl 2147483649) n_66_14
theorem t_66_13 : e_Sn 66 13 (e_un n_66_13) := u_pushT (s_iconst (n := (1)) hq_66 (by decide +kernel) rfl ⟨by decide +kernel, by decide +kernel⟩ : e_Sn 66 13 (o_push (.inl 2147483649) 14)) t_66_14
noncomputable def n_66_10 : e_Y := u_if y_le0 (u_old2 (o_ifgt 17 13) 17 (u_at 17) n_66_13) (u_at 17) n_66_13
theorem t_66_10 : e_Sn 66 10 (e_un n_66_10) := u_ifgtT rfl (s_ifgt (off := (7)) hq_66 (by decide +kernel) rfl rfl : e_Sn 66 10 (o_ifgt 17 13)) u_atT t_66_13
noncomputable def n_66_9 : e_Y := u_old (o_lcmp 10) n_66_10
theorem t_66_9 : e_Sn 66 9 (e_un n_66_9) := u_oldT (s_lcmp hq_66 (by decide +kernel) rfl : e_Sn 66 9 (o_lcmp 10)) t_66_10 e_cg_lcmp
noncomputable def n_66_7 : e_Y := u_old (o_load e_okL 4 9) n_66_9
theorem t_66_7 : e_Sn 66 7 (e_un n_66_7) := u_oldT (s_lload (i := .lload 4) (len := 2) hq_66 (by decide +kernel) rfl (.inl ⟨rfl, rfl⟩) : e_Sn 66 7 (o_load e_okL 4 9)) t_66_9 e_congr_load
noncomputable def n_66_6 : e_Y := u_old (o_load e_okL 0 7) n_66_7
theorem t_66_6 : e_Sn 66 6 (e_un n_66_6) := u_oldT (s_lload (i := .lload_n 0) (len := 1) hq_66 (by decide +kernel) rfl (.inr ⟨0, rfl, rfl, rfl⟩) : e_Sn 66 6 (o_load e_okL 0 7)) t_66_7 e_congr_load
noncomputable def n_66_3 : e_Y := u_if y_ge0 (u_old2 (o_iflt 17 6) 17 (u_at 17) n_66_6) (u_at 17) n_66_6
theorem t_66_3 : e_Sn 66 3 (e_un n_66_3) := u_ifltT rfl (s_iflt (off := (14)) hq_66 (by decide +kernel) rfl rfl : e_Sn 66 3 (o_iflt 17 6)) u_atT t_66_6
noncomputable def n_66_2 : e_Y := u_old (o_lcmp 3) n_66_3
theorem t_66_2 : e_Sn 66 2 (e_un n_66_2) := u_oldT (s_lcmp hq_66 (by decide +kernel) rfl : e_Sn 66 2 (o_lcmp 3)) t_66_3 e_cg_lcmp
noncomputable def n_66_1 : e_Y := u_old (o_load e_okL 2 2) n_66_2
theorem t_66_1 : e_Sn 66 1 (e_un n_66_1) := u_oldT (s_lload (i := .lload_n 2) (len := 1) hq_66 (by decide +kernel) rfl (.inr ⟨2, rfl, rfl, rfl⟩) : e_Sn 66 1 (o_load e_okL 2 2)) t_66_2 e_congr_load
noncomputable def n_66_0 : e_Y := u_old (o_load e_okL 0 1) n_66_1
theorem t_66_0 : e_Sn 66 0 (e_un n_66_0) := u_oldT (s_lload (i := .lload_n 0) (len := 1) hq_66 (by decide +kernel) rfl (.inr ⟨0, rfl, rfl, rfl⟩) : e_Sn 66 0 (o_load e_okL 0 1)) t_66_1 e_congr_load
noncomputable def e_tb_66 : e_X := (e_lf 0 (e_un n_66_0))
theorem e_tk_66 : e_Tb 66 e_tb_66 := (e_lfT t_66_0)
theorem hq_67 : (e_ml[67]?).map (·.2.1) = some prog_14_method_25_code := Eq.trans (congrArg (Option.map (fun e => e.2.1)) hy_67) rfl
theorem ho_67 : (e_ml[67]?).map (·.1.cls) = some "PlateroomprinterModel" := Eq.trans (congrArg (Option.map (fun e => e.1.cls)) hy_67) rfl
theorem hr_67 : (e_ml[67]?).map (·.2.2.2) = some (some .boolean) := Eq.trans (congrArg (Option.map (fun e => e.2.2.2)) hy_67) rfl
noncomputable def n_67_105 : e_Y := u_tab (o_ret e_okZ)
theorem t_67_105 : e_Sn 67 105 (e_un n_67_105) := u_tabT (s_zret hq_67 hr_67 (by decide +kernel) : e_Sn 67 105 (o_ret e_okZ))
noncomputable def n_67_104 : e_Y := u_push (.inl 2147483648) n_67_105
theorem t_67_104 : e_Sn 67 104 (e_un n_67_104) := u_pushT (s_iconst (n := (0)) hq_67 (by decide +kernel) rfl ⟨by decide +kernel, by decide +kernel⟩ : e_Sn 67 104 (o_push (.inl 2147483648) 105)) t_67_105
noncomputable def n_67_97 : e_Y := u_if y_ne0 (u_old2 (o_ifeq 104 100) 104 n_67_104 (u_at 100)) n_67_104 (u_at 100)
theorem t_67_97 : e_Sn 67 97 (e_un n_67_97) := u_ifeqT rfl (s_ifeq (off := (7)) hq_67 (by decide +kernel) rfl rfl : e_Sn 67 97 (o_ifeq 104 100)) t_67_104 u_atT
noncomputable def n_67_96 : e_Y := u_ld f_okI f_l1 n_67_97
theorem t_67_96 : e_Sn 67 96 (e_un n_67_96) := u_ldIT f_l1_eq (s_iload (i := .iload_n 1) (len := 1) hq_67 (by decide +kernel) rfl (.inr ⟨1, rfl, rfl, rfl⟩) : e_Sn 67 96 (o_load e_okI 1 97)) t_67_97
noncomputable def n_67_77 : e_Y := u_tab (o_ret e_okZ)
theorem t_67_77 : e_Sn 67 77 (e_un n_67_77) := u_tabT (s_zret hq_67 hr_67 (by decide +kernel) : e_Sn 67 77 (o_ret e_okZ))
noncomputable def n_67_76 : e_Y := u_push (.inl 2147483648) n_67_77
theorem t_67_76 : e_Sn 67 76 (e_un n_67_76) := u_pushT (s_iconst (n := (0)) hq_67 (by decide +kernel) rfl ⟨by decide +kernel, by decide +kernel⟩ : e_Sn 67 76 (o_push (.inl 2147483648) 77)) t_67_77
noncomputable def n_67_69 : e_Y := u_if y_ne0 (u_old2 (o_ifeq 72 76) 72 (u_at 72) n_67_76) (u_at 72) n_67_76
theorem t_67_69 : e_Sn 67 69 (e_un n_67_69) := u_ifeqT rfl (s_ifne (off := (7)) hq_67 (by decide +kernel) rfl rfl : e_Sn 67 69 (o_ifeq 72 76)) u_atT t_67_76
noncomputable def n_67_66 : e_Y := u_callS 66 6 25 3 n_66_0 n_67_69
theorem t_67_66 : e_Sn 67 66 (e_un n_67_66) := u_callST rfl (s_callS (index := 136) hq_67 ho_67 hy_66 hp_66 hc_66 hi_66 hd_66 r_m_8_166 hs_66 (by decide +kernel) rfl : e_Sn 67 66 (o_callS 66 6 3 69)) t_66_0 t_67_69
noncomputable def n_67_63 : e_Y := u_push (e_L 9223372036854775860) n_67_66
theorem t_67_63 : e_Sn 67 63 (e_un n_67_63) := u_pushT (s_ldc2 (index := 140) (v := (52)) hq_67 ho_67 (r_k8 (List.mem_of_getElem? (i := 169) (by decide +kernel))) (by decide +kernel) rfl ⟨by decide +kernel, by decide +kernel⟩ : e_Sn 67 63 (o_push (e_L 9223372036854775860) 66)) t_67_66
noncomputable def n_67_62 : e_Y := u_push (e_L 9223372036854775808) n_67_63
theorem t_67_62 : e_Sn 67 62 (e_un n_67_62) := u_pushT (s_lconst (n := 0) hq_67 (by decide +kernel) rfl ⟨by decide +kernel, by decide +kernel⟩ : e_Sn 67 62 (o_push (e_L 9223372036854775808) 63)) t_67_63
noncomputable def n_67_61 : e_Y := u_old (o_i2l 62) n_67_62
theorem t_67_61 : e_Sn 67 61 (e_un n_67_61) := u_oldT (s_i2l hq_67 (by decide +kernel) rfl : e_Sn 67 61 (o_i2l 62)) t_67_62 e_congr_i2l
noncomputable def n_67_60 : e_Y := u_ld f_okI f_l1 n_67_61
theorem t_67_60 : e_Sn 67 60 (e_un n_67_60) := u_ldIT f_l1_eq (s_iload (i := .iload_n 1) (len := 1) hq_67 (by decide +kernel) rfl (.inr ⟨1, rfl, rfl, rfl⟩) : e_Sn 67 60 (o_load e_okI 1 61)) t_67_61
noncomputable def n_67_59 : e_Y := u_tab (o_ret e_okZ)
theorem t_67_59 : e_Sn 67 59 (e_un n_67_59) := u_tabT (s_zret hq_67 hr_67 (by decide +kernel) : e_Sn 67 59 (o_ret e_okZ))
noncomputable def n_67_58 : e_Y := u_push (.inl 2147483648) n_67_59
theorem t_67_58 : e_Sn 67 58 (e_un n_67_58) := u_pushT (s_iconst (n := (0)) hq_67 (by decide +kernel) rfl ⟨by decide +kernel, by decide +kernel⟩ : e_Sn 67 58 (o_push (.inl 2147483648) 59)) t_67_59
noncomputable def n_67_51 : e_Y := u_if y_ne0 (u_old2 (o_ifeq 54 58) 54 (u_at 54) n_67_58) (u_at 54) n_67_58
theorem t_67_51 : e_Sn 67 51 (e_un n_67_51) := u_ifeqT rfl (s_ifne (off := (7)) hq_67 (by decide +kernel) rfl rfl : e_Sn 67 51 (o_ifeq 54 58)) u_atT t_67_58
noncomputable def n_67_48 : e_Y := u_callS 66 6 25 3 n_66_0 n_67_51
theorem t_67_48 : e_Sn 67 48 (e_un n_67_48) := u_callST rfl (s_callS (index := 136) hq_67 ho_67 hy_66 hp_66 hc_66 hi_66 hd_66 r_m_8_166 hs_66 (by decide +kernel) rfl : e_Sn 67 48 (o_callS 66 6 3 51)) t_66_0 t_67_51
noncomputable def n_67_45 : e_Y := u_push (e_L 9223372036854785807) n_67_48
theorem t_67_45 : e_Sn 67 45 (e_un n_67_45) := u_pushT (s_ldc2 (index := 134) (v := (9999)) hq_67 ho_67 (r_k8 (List.mem_of_getElem? (i := 165) (by decide +kernel))) (by decide +kernel) rfl ⟨by decide +kernel, by decide +kernel⟩ : e_Sn 67 45 (o_push (e_L 9223372036854785807) 48)) t_67_48
noncomputable def n_67_42 : e_Y := u_push (e_L 9223372036854765809) n_67_45
theorem t_67_42 : e_Sn 67 42 (e_un n_67_42) := u_pushT (s_ldc2 (index := 132) (v := (-9999)) hq_67 ho_67 (r_k8 (List.mem_of_getElem? (i := 164) (by decide +kernel))) (by decide +kernel) rfl ⟨by decide +kernel, by decide +kernel⟩ : e_Sn 67 42 (o_push (e_L 9223372036854765809) 45)) t_67_45
noncomputable def n_67_41 : e_Y := u_old (o_i2l 42) n_67_42
theorem t_67_41 : e_Sn 67 41 (e_un n_67_41) := u_oldT (s_i2l hq_67 (by decide +kernel) rfl : e_Sn 67 41 (o_i2l 42)) t_67_42 e_congr_i2l
noncomputable def n_67_40 : e_Y := u_ld f_okI f_l1 n_67_41
theorem t_67_40 : e_Sn 67 40 (e_un n_67_40) := u_ldIT f_l1_eq (s_iload (i := .iload_n 1) (len := 1) hq_67 (by decide +kernel) rfl (.inr ⟨1, rfl, rfl, rfl⟩) : e_Sn 67 40 (o_load e_okI 1 41)) t_67_41
noncomputable def n_67_1 : e_Y := u_tab (o_switch 2147483648 [40, 60, 78, 78, 96, 96] 106)
theorem t_67_1 : e_Sn 67 1 (e_un n_67_1) := u_tabT (s_switch (dflt := (105)) (low := (0)) (hi := (5)) (offs := #[(39), (59), (77), (77), (95), (95)]) (len := 39) hq_67 (by decide +kernel) rfl rfl rfl rfl : e_Sn 67 1 (o_switch 2147483648 [40, 60, 78, 78, 96, 96] 106))
noncomputable def n_67_0 : e_Y := u_ld f_okI f_l0 n_67_1
theorem t_67_0 : e_Sn 67 0 (e_un n_67_0) := u_ldIT f_l0_eq (s_iload (i := .iload_n 0) (len := 1) hq_67 (by decide +kernel) rfl (.inr ⟨0, rfl, rfl, rfl⟩) : e_Sn 67 0 (o_load e_okI 0 1)) t_67_1
noncomputable def e_tb_67 : e_X := (e_br 60 (e_br 40 (e_lf 0 (e_un n_67_0)) (e_lf 40 (e_un n_67_40))) (e_br 96 (e_lf 60 (e_un n_67_60)) (e_lf 96 (e_un n_67_96))))
theorem e_tk_67 : e_Tb 67 e_tb_67 := (e_brT (e_brT (e_lfT t_67_0) (e_lfT t_67_40)) (e_brT (e_lfT t_67_60) (e_lfT t_67_96)))
theorem hq_68 : (e_ml[68]?).map (·.2.1) = some prog_14_method_4_code := Eq.trans (congrArg (Option.map (fun e => e.2.1)) hy_68) rfl
theorem ho_68 : (e_ml[68]?).map (·.1.cls) = some "PlateroomprinterModel" := Eq.trans (congrArg (Option.map (fun e => e.1.cls)) hy_68) rfl
theorem hr_68 : (e_ml[68]?).map (·.2.2.2) = some none := Eq.trans (congrArg (Option.map (fun e => e.2.2.2)) hy_68) rfl
noncomputable def n_68_13 : e_Y := u_retV
theorem t_68_13 : e_Sn 68 13 (e_un n_68_13) := u_retVT (s_vret hq_68 hr_68 (by decide +kernel) : e_Sn 68 13 (o_retv))
noncomputable def n_68_1 : e_Y := u_if y_ne0 (u_old2 (o_ifeq 4 13) 4 (u_at 4) n_68_13) (u_at 4) n_68_13
theorem t_68_1 : e_Sn 68 1 (e_un n_68_1) := u_ifeqT rfl (s_ifne (off := (12)) hq_68 (by decide +kernel) rfl rfl : e_Sn 68 1 (o_ifeq 4 13)) u_atT t_68_13
noncomputable def n_68_0 : e_Y := u_ld f_okI f_l0 n_68_1
theorem t_68_0 : e_Sn 68 0 (e_un n_68_0) := u_ldIT f_l0_eq (s_iload (i := .iload_n 0) (len := 1) hq_68 (by decide +kernel) rfl (.inr ⟨0, rfl, rfl, rfl⟩) : e_Sn 68 0 (o_load e_okI 0 1)) t_68_1
noncomputable def e_tb_68 : e_X := (e_lf 0 (e_un n_68_0))
theorem e_tk_68 : e_Tb 68 e_tb_68 := (e_lfT t_68_0)
theorem hq_69 : (e_ml[69]?).map (·.2.1) = some prog_14_method_23_code := Eq.trans (congrArg (Option.map (fun e => e.2.1)) hy_69) rfl
theorem ho_69 : (e_ml[69]?).map (·.1.cls) = some "PlateroomprinterModel" := Eq.trans (congrArg (Option.map (fun e => e.1.cls)) hy_69) rfl
theorem hr_69 : (e_ml[69]?).map (·.2.2.2) = some (some .boolean) := Eq.trans (congrArg (Option.map (fun e => e.2.2.2)) hy_69) rfl
noncomputable def n_69_28 : e_Y := u_tab (o_ret e_okZ)
theorem t_69_28 : e_Sn 69 28 (e_un n_69_28) := u_tabT (s_zret hq_69 hr_69 (by decide +kernel) : e_Sn 69 28 (o_ret e_okZ))
noncomputable def n_69_27 : e_Y := u_push (.inl 2147483648) n_69_28
theorem t_69_27 : e_Sn 69 27 (e_un n_69_27) := u_pushT (s_iconst (n := (0)) hq_69 (by decide +kernel) rfl ⟨by decide +kernel, by decide +kernel⟩ : e_Sn 69 27 (o_push (.inl 2147483648) 28)) t_69_28
noncomputable def n_69_20 : e_Y := u_if y_le0 (u_old2 (o_ifgt 23 27) 23 (u_at 23) n_69_27) (u_at 23) n_69_27
theorem t_69_20 : e_Sn 69 20 (e_un n_69_20) := u_ifgtT rfl (s_ifle (off := (7)) hq_69 (by decide +kernel) rfl rfl : e_Sn 69 20 (o_ifgt 23 27)) u_atT t_69_27
noncomputable def n_69_17 : e_Y := u_getf 12 0 (u_old (o_getf (e_f1 12 0) 20) n_69_20) n_69_20
theorem t_69_17 : e_Sn 69 17 (e_un n_69_17) := u_getfT (s_getf (C := er_12) (T := et_12) (N := 5) (ref := "PlateroomprinterModel") (index := 124) (ci := 12) (k := 0) hq_69 ho_69 ⟨rfl, by decide, ei_12, r_m_8_141, .inl rfl⟩ (by decide +kernel) rfl : e_Sn 69 17 (o_getf (e_f1 12 0) 20)) t_69_20
noncomputable def n_69_16 : e_Y := u_ld f_okA f_l0 n_69_17
theorem t_69_16 : e_Sn 69 16 (e_un n_69_16) := u_ldAT f_l0_eq (s_aload (i := .aload_n 0) (len := 1) hq_69 (by decide +kernel) rfl (.inr ⟨0, rfl, rfl, rfl⟩) : e_Sn 69 16 (o_load e_okR 0 17)) t_69_17
noncomputable def n_69_1 : e_Y := u_if y_ne0 (u_old2 (o_ifeq 16 4) 16 n_69_16 (u_at 4)) n_69_16 (u_at 4)
theorem t_69_1 : e_Sn 69 1 (e_un n_69_1) := u_ifeqT rfl (s_ifeq (off := (15)) hq_69 (by decide +kernel) rfl rfl : e_Sn 69 1 (o_ifeq 16 4)) t_69_16 u_atT
noncomputable def n_69_0 : e_Y := u_ld f_okI f_l1 n_69_1
theorem t_69_0 : e_Sn 69 0 (e_un n_69_0) := u_ldIT f_l1_eq (s_iload (i := .iload_n 1) (len := 1) hq_69 (by decide +kernel) rfl (.inr ⟨1, rfl, rfl, rfl⟩) : e_Sn 69 0 (o_load e_okI 1 1)) t_69_1
noncomputable def e_tb_69 : e_X := (e_lf 0 (e_un n_69_0))
theorem e_tk_69 : e_Tb 69 e_tb_69 := (e_lfT t_69_0)
theorem hq_100 : (e_ml[100]?).map (·.2.1) = some prog_21_method_2_code := Eq.trans (congrArg (Option.map (fun e => e.2.1)) hy_100) rfl
theorem ho_100 : (e_ml[100]?).map (·.1.cls) = some "PlateroomprinterModel$State" := Eq.trans (congrArg (Option.map (fun e => e.1.cls)) hy_100) rfl
theorem hr_100 : (e_ml[100]?).map (·.2.2.2) = some (some (.object "PlateroomprinterModel$State")) := Eq.trans (congrArg (Option.map (fun e => e.2.2.2)) hy_100) rfl
noncomputable def n_100_89 : e_Y := u_retA
theorem t_100_89 : e_Sn 100 89 (e_un n_100_89) := u_retAT (s_aret (.inl ⟨_, rfl⟩) hq_100 hr_100 (by decide +kernel) : e_Sn 100 89 (o_ret e_okR))
noncomputable def n_100_88 : e_Y := u_ld f_okA f_l1 n_100_89
theorem t_100_88 : e_Sn 100 88 (e_un n_100_88) := u_ldAT f_l1_eq (s_aload (i := .aload_n 1) (len := 1) hq_100 (by decide +kernel) rfl (.inr ⟨1, rfl, rfl, rfl⟩) : e_Sn 100 88 (o_load e_okR 1 89)) t_100_89
noncomputable def n_100_85 : e_Y := u_putf 17 5 f_okA (u_old (o_putf (e_f1 17 5) e_okR 88) n_100_88) n_100_88
theorem t_100_85 : e_Sn 100 85 (e_un n_100_85) := u_putfT (fun _ => f_okA_eq) (s_putf (ty0 := ey_17) (ok := e_okR) (C := er_17) (T := et_17) (N := 6) (ref := "PlateroomprinterModel$State") (index := 30) (ci := 17) (k := 5) hq_100 ho_100 ⟨rfl, by decide, ei_17, r_m_7_226, .inl rfl⟩ eo_17 en_17 e_oksA (.inl rfl) (by decide +kernel) rfl : e_Sn 100 85 (o_putf (e_f1 17 5) e_okR 88)) t_100_88
noncomputable def n_100_82 : e_Y := u_callS 63 3 22 1 n_63_0 n_100_85
theorem t_100_82 : e_Sn 100 82 (e_un n_100_82) := u_callST rfl (s_callSN (host := "PlateroomprinterModel") (index := 44) hq_100 ho_100 hy_63 hp_63 hc_63 hi_63 hd_63 r_m_9_37 hs_63 (by decide +kernel) rfl : e_Sn 100 82 (o_callS 63 3 1 85)) t_63_0 t_100_85
noncomputable def n_100_79 : e_Y := u_getf 17 5 (u_old (o_getf (e_f1 17 5) 82) n_100_82) n_100_82
theorem t_100_79 : e_Sn 100 79 (e_un n_100_79) := u_getfT (s_getf (C := er_17) (T := et_17) (N := 6) (ref := "PlateroomprinterModel$State") (index := 30) (ci := 17) (k := 5) hq_100 ho_100 ⟨rfl, by decide, ei_17, r_m_7_226, .inl rfl⟩ (by decide +kernel) rfl : e_Sn 100 79 (o_getf (e_f1 17 5) 82)) t_100_82
noncomputable def n_100_78 : e_Y := u_ld f_okA f_l0 n_100_79
theorem t_100_78 : e_Sn 100 78 (e_un n_100_78) := u_ldAT f_l0_eq (s_aload (i := .aload_n 0) (len := 1) hq_100 (by decide +kernel) rfl (.inr ⟨0, rfl, rfl, rfl⟩) : e_Sn 100 78 (o_load e_okR 0 79)) t_100_79
noncomputable def n_100_77 : e_Y := u_ld f_okA f_l1 n_100_78
theorem t_100_77 : e_Sn 100 77 (e_un n_100_77) := u_ldAT f_l1_eq (s_aload (i := .aload_n 1) (len := 1) hq_100 (by decide +kernel) rfl (.inr ⟨1, rfl, rfl, rfl⟩) : e_Sn 100 77 (o_load e_okR 1 78)) t_100_78
noncomputable def n_100_74 : e_Y := u_putf 17 4 f_okA (u_old (o_putf (e_f1 17 4) e_okR 77) n_100_77) n_100_77
theorem t_100_74 : e_Sn 100 74 (e_un n_100_74) := u_putfT (fun _ => f_okA_eq) (s_putf (ty0 := ey_17) (ok := e_okR) (C := er_17) (T := et_17) (N := 6) (ref := "PlateroomprinterModel$State") (index := 26) (ci := 17) (k := 4) hq_100 ho_100 ⟨rfl, by decide, ei_17, r_m_7_223, .inl rfl⟩ eo_17 en_17 e_oksA (.inl rfl) (by decide +kernel) rfl : e_Sn 100 74 (o_putf (e_f1 17 4) e_okR 77)) t_100_77
noncomputable def n_100_71 : e_Y := u_callS 63 3 22 1 n_63_0 n_100_74
theorem t_100_71 : e_Sn 100 71 (e_un n_100_71) := u_callST rfl (s_callSN (host := "PlateroomprinterModel") (index := 44) hq_100 ho_100 hy_63 hp_63 hc_63 hi_63 hd_63 r_m_9_37 hs_63 (by decide +kernel) rfl : e_Sn 100 71 (o_callS 63 3 1 74)) t_63_0 t_100_74
noncomputable def n_100_68 : e_Y := u_getf 17 4 (u_old (o_getf (e_f1 17 4) 71) n_100_71) n_100_71
theorem t_100_68 : e_Sn 100 68 (e_un n_100_68) := u_getfT (s_getf (C := er_17) (T := et_17) (N := 6) (ref := "PlateroomprinterModel$State") (index := 26) (ci := 17) (k := 4) hq_100 ho_100 ⟨rfl, by decide, ei_17, r_m_7_223, .inl rfl⟩ (by decide +kernel) rfl : e_Sn 100 68 (o_getf (e_f1 17 4) 71)) t_100_71
noncomputable def n_100_67 : e_Y := u_ld f_okA f_l0 n_100_68
theorem t_100_67 : e_Sn 100 67 (e_un n_100_67) := u_ldAT f_l0_eq (s_aload (i := .aload_n 0) (len := 1) hq_100 (by decide +kernel) rfl (.inr ⟨0, rfl, rfl, rfl⟩) : e_Sn 100 67 (o_load e_okR 0 68)) t_100_68
noncomputable def n_100_66 : e_Y := u_ld f_okA f_l1 n_100_67
theorem t_100_66 : e_Sn 100 66 (e_un n_100_66) := u_ldAT f_l1_eq (s_aload (i := .aload_n 1) (len := 1) hq_100 (by decide +kernel) rfl (.inr ⟨1, rfl, rfl, rfl⟩) : e_Sn 100 66 (o_load e_okR 1 67)) t_100_67
noncomputable def n_100_63 : e_Y := u_putf 17 3 f_okA (u_old (o_putf (e_f1 17 3) e_okR 66) n_100_66) n_100_66
theorem t_100_63 : e_Sn 100 63 (e_un n_100_63) := u_putfT (fun _ => f_okA_eq) (s_putf (ty0 := ey_17) (ok := e_okR) (C := er_17) (T := et_17) (N := 6) (ref := "PlateroomprinterModel$State") (index := 22) (ci := 17) (k := 3) hq_100 ho_100 ⟨rfl, by decide, ei_17, r_m_7_220, .inl rfl⟩ eo_17 en_17 e_oksA (.inl rfl) (by decide +kernel) rfl : e_Sn 100 63 (o_putf (e_f1 17 3) e_okR 66)) t_100_66
noncomputable def n_100_60 : e_Y := u_callS 64 3 22 1 n_64_0 n_100_63
theorem t_100_60 : e_Sn 100 60 (e_un n_100_60) := u_callST rfl (s_callSN (host := "PlateroomprinterModel") (index := 41) hq_100 ho_100 hy_64 hp_64 hc_64 hi_64 hd_64 (r_k9 (List.mem_of_getElem? (i := 34) (by decide +kernel))) hs_64 (by decide +kernel) rfl : e_Sn 100 60 (o_callS 64 3 1 63)) t_64_0 t_100_63
noncomputable def n_100_57 : e_Y := u_getf 17 3 (u_old (o_getf (e_f1 17 3) 60) n_100_60) n_100_60
theorem t_100_57 : e_Sn 100 57 (e_un n_100_57) := u_getfT (s_getf (C := er_17) (T := et_17) (N := 6) (ref := "PlateroomprinterModel$State") (index := 22) (ci := 17) (k := 3) hq_100 ho_100 ⟨rfl, by decide, ei_17, r_m_7_220, .inl rfl⟩ (by decide +kernel) rfl : e_Sn 100 57 (o_getf (e_f1 17 3) 60)) t_100_60
noncomputable def n_100_56 : e_Y := u_ld f_okA f_l0 n_100_57
theorem t_100_56 : e_Sn 100 56 (e_un n_100_56) := u_ldAT f_l0_eq (s_aload (i := .aload_n 0) (len := 1) hq_100 (by decide +kernel) rfl (.inr ⟨0, rfl, rfl, rfl⟩) : e_Sn 100 56 (o_load e_okR 0 57)) t_100_57
noncomputable def n_100_55 : e_Y := u_ld f_okA f_l1 n_100_56
theorem t_100_55 : e_Sn 100 55 (e_un n_100_55) := u_ldAT f_l1_eq (s_aload (i := .aload_n 1) (len := 1) hq_100 (by decide +kernel) rfl (.inr ⟨1, rfl, rfl, rfl⟩) : e_Sn 100 55 (o_load e_okR 1 56)) t_100_56
noncomputable def n_100_52 : e_Y := u_putf 17 2 f_okA (u_old (o_putf (e_f1 17 2) e_okR 55) n_100_55) n_100_55
theorem t_100_52 : e_Sn 100 52 (e_un n_100_52) := u_putfT (fun _ => f_okA_eq) (s_putf (ty0 := ey_17) (ok := e_okR) (C := er_17) (T := et_17) (N := 6) (ref := "PlateroomprinterModel$State") (index := 38) (ci := 17) (k := 2) hq_100 ho_100 ⟨rfl, by decide, ei_17, r_m_7_217, .inl rfl⟩ eo_17 en_17 e_oksA (.inl rfl) (by decide +kernel) rfl : e_Sn 100 52 (o_putf (e_f1 17 2) e_okR 55)) t_100_55
noncomputable def n_100_49 : e_Y := u_getf 17 2 (u_old (o_getf (e_f1 17 2) 52) n_100_52) n_100_52
theorem t_100_49 : e_Sn 100 49 (e_un n_100_49) := u_getfT (s_getf (C := er_17) (T := et_17) (N := 6) (ref := "PlateroomprinterModel$State") (index := 38) (ci := 17) (k := 2) hq_100 ho_100 ⟨rfl, by decide, ei_17, r_m_7_217, .inl rfl⟩ (by decide +kernel) rfl : e_Sn 100 49 (o_getf (e_f1 17 2) 52)) t_100_52
noncomputable def n_100_48 : e_Y := u_ld f_okA f_l0 n_100_49
theorem t_100_48 : e_Sn 100 48 (e_un n_100_48) := u_ldAT f_l0_eq (s_aload (i := .aload_n 0) (len := 1) hq_100 (by decide +kernel) rfl (.inr ⟨0, rfl, rfl, rfl⟩) : e_Sn 100 48 (o_load e_okR 0 49)) t_100_49
noncomputable def n_100_47 : e_Y := u_ld f_okA f_l1 n_100_48
theorem t_100_47 : e_Sn 100 47 (e_un n_100_47) := u_ldAT f_l1_eq (s_aload (i := .aload_n 1) (len := 1) hq_100 (by decide +kernel) rfl (.inr ⟨1, rfl, rfl, rfl⟩) : e_Sn 100 47 (o_load e_okR 1 48)) t_100_48
noncomputable def n_100_44 : e_Y := u_putf 17 1 f_okA (u_old (o_putf (e_f1 17 1) e_okR 47) n_100_47) n_100_47
theorem t_100_44 : e_Sn 100 44 (e_un n_100_44) := u_putfT (fun _ => f_okA_eq) (s_putf (ty0 := ey_17) (ok := e_okR) (C := er_17) (T := et_17) (N := 6) (ref := "PlateroomprinterModel$State") (index := 18) (ci := 17) (k := 1) hq_100 ho_100 ⟨rfl, by decide, ei_17, r_m_7_214, .inl rfl⟩ eo_17 en_17 e_oksR (.inl rfl) (by decide +kernel) rfl : e_Sn 100 44 (o_putf (e_f1 17 1) e_okR 47)) t_100_47
noncomputable def n_100_41 : e_Y := u_callS 62 5 24 3 n_62_0 n_100_44
theorem t_100_41 : e_Sn 100 41 (e_un n_100_41) := u_callST rfl (s_callSN (host := "PlateroomprinterModel") (index := 34) hq_100 ho_100 hy_62 hp_62 hc_62 hi_62 hd_62 (r_k9 (List.mem_of_getElem? (i := 2) (by decide +kernel))) hs_62 (by decide +kernel) rfl : e_Sn 100 41 (o_callS 62 5 3 44)) t_62_0 t_100_44
noncomputable def n_100_40 : e_Y := u_push (.inl 2147483648) n_100_41
theorem t_100_40 : e_Sn 100 40 (e_un n_100_40) := u_pushT (s_iconst (n := (0)) hq_100 (by decide +kernel) rfl ⟨by decide +kernel, by decide +kernel⟩ : e_Sn 100 40 (o_push (.inl 2147483648) 41)) t_100_41
noncomputable def n_100_39 : e_Y := u_push (.inl 2147483648) n_100_40
theorem t_100_39 : e_Sn 100 39 (e_un n_100_39) := u_pushT (s_iconst (n := (0)) hq_100 (by decide +kernel) rfl ⟨by decide +kernel, by decide +kernel⟩ : e_Sn 100 39 (o_push (.inl 2147483648) 40)) t_100_40
noncomputable def n_100_36 : e_Y := u_getf 17 1 (u_old (o_getf (e_f1 17 1) 39) n_100_39) n_100_39
theorem t_100_36 : e_Sn 100 36 (e_un n_100_36) := u_getfT (s_getf (C := er_17) (T := et_17) (N := 6) (ref := "PlateroomprinterModel$State") (index := 18) (ci := 17) (k := 1) hq_100 ho_100 ⟨rfl, by decide, ei_17, r_m_7_214, .inl rfl⟩ (by decide +kernel) rfl : e_Sn 100 36 (o_getf (e_f1 17 1) 39)) t_100_39
noncomputable def n_100_35 : e_Y := u_ld f_okA f_l0 n_100_36
theorem t_100_35 : e_Sn 100 35 (e_un n_100_35) := u_ldAT f_l0_eq (s_aload (i := .aload_n 0) (len := 1) hq_100 (by decide +kernel) rfl (.inr ⟨0, rfl, rfl, rfl⟩) : e_Sn 100 35 (o_load e_okR 0 36)) t_100_36
noncomputable def n_100_34 : e_Y := u_ld f_okA f_l1 n_100_35
theorem t_100_34 : e_Sn 100 34 (e_un n_100_34) := u_ldAT f_l1_eq (s_aload (i := .aload_n 1) (len := 1) hq_100 (by decide +kernel) rfl (.inr ⟨1, rfl, rfl, rfl⟩) : e_Sn 100 34 (o_load e_okR 1 35)) t_100_35
noncomputable def n_100_31 : e_Y := (u_at 10)
theorem t_100_31 : e_Sn 100 31 (e_un n_100_31) := u_gotoT (s_goto (off := (-21)) hq_100 (by decide +kernel) rfl : e_Sn 100 31 (o_goto 10)) u_atT
noncomputable def n_100_28 : e_Y := u_inc f_l2 f_s2 1 n_100_31
theorem t_100_28 : e_Sn 100 28 (e_un n_100_28) := u_incT f_l2_eq (fun _ _ _ => f_s2_eq) (s_iinc (zz := (1)) hq_100 (by decide +kernel) rfl (by decide +kernel) ⟨by decide, by decide⟩ : e_Sn 100 28 (o_iinc 2 1 31)) t_100_31
noncomputable def n_100_27 : e_Y := u_old (o_ast 2 e_okL 28) n_100_28
theorem t_100_27 : e_Sn 100 27 (e_un n_100_27) := u_oldT (s_last hq_100 (by decide +kernel) rfl : e_Sn 100 27 (o_ast 2 e_okL 28)) t_100_28 (e_cg_ast 2 e_okL)
noncomputable def n_100_26 : e_Y := u_ald 2 (u_old (o_aldO 2 27) n_100_27) n_100_27
theorem t_100_26 : e_Sn 100 26 (e_un n_100_26) := u_aldOT (s_lald hq_100 (by decide +kernel) rfl : e_Sn 100 26 (o_aldO 2 27)) t_100_27
noncomputable def n_100_25 : e_Y := u_ld f_okI f_l2 n_100_26
theorem t_100_25 : e_Sn 100 25 (e_un n_100_25) := u_ldIT f_l2_eq (s_iload (i := .iload_n 2) (len := 1) hq_100 (by decide +kernel) rfl (.inr ⟨2, rfl, rfl, rfl⟩) : e_Sn 100 25 (o_load e_okI 2 26)) t_100_26
noncomputable def n_100_22 : e_Y := u_getf 17 0 (u_old (o_getf (e_f1 17 0) 25) n_100_25) n_100_25
theorem t_100_22 : e_Sn 100 22 (e_un n_100_22) := u_getfT (s_getf (C := er_17) (T := et_17) (N := 6) (ref := "PlateroomprinterModel$State") (index := 9) (ci := 17) (k := 0) hq_100 ho_100 ⟨rfl, by decide, ei_17, r_m_7_212, .inl rfl⟩ (by decide +kernel) rfl : e_Sn 100 22 (o_getf (e_f1 17 0) 25)) t_100_25
noncomputable def n_100_21 : e_Y := u_ld f_okA f_l0 n_100_22
theorem t_100_21 : e_Sn 100 21 (e_un n_100_21) := u_ldAT f_l0_eq (s_aload (i := .aload_n 0) (len := 1) hq_100 (by decide +kernel) rfl (.inr ⟨0, rfl, rfl, rfl⟩) : e_Sn 100 21 (o_load e_okR 0 22)) t_100_22
noncomputable def n_100_20 : e_Y := u_ld f_okI f_l2 n_100_21
theorem t_100_20 : e_Sn 100 20 (e_un n_100_20) := u_ldIT f_l2_eq (s_iload (i := .iload_n 2) (len := 1) hq_100 (by decide +kernel) rfl (.inr ⟨2, rfl, rfl, rfl⟩) : e_Sn 100 20 (o_load e_okI 2 21)) t_100_21
noncomputable def n_100_17 : e_Y := u_getf 17 0 (u_old (o_getf (e_f1 17 0) 20) n_100_20) n_100_20
theorem t_100_17 : e_Sn 100 17 (e_un n_100_17) := u_getfT (s_getf (C := er_17) (T := et_17) (N := 6) (ref := "PlateroomprinterModel$State") (index := 9) (ci := 17) (k := 0) hq_100 ho_100 ⟨rfl, by decide, ei_17, r_m_7_212, .inl rfl⟩ (by decide +kernel) rfl : e_Sn 100 17 (o_getf (e_f1 17 0) 20)) t_100_20
noncomputable def n_100_16 : e_Y := u_ld f_okA f_l1 n_100_17
theorem t_100_16 : e_Sn 100 16 (e_un n_100_16) := u_ldAT f_l1_eq (s_aload (i := .aload_n 1) (len := 1) hq_100 (by decide +kernel) rfl (.inr ⟨1, rfl, rfl, rfl⟩) : e_Sn 100 16 (o_load e_okR 1 17)) t_100_17
noncomputable def n_100_13 : e_Y := u_jmp y_ge (u_old2 (o_clt 16 34) 16 n_100_16 n_100_34) n_100_16 n_100_34
theorem t_100_13 : e_Sn 100 13 (e_un n_100_13) := u_cltT rfl (s_cge (off := (21)) hq_100 (by decide +kernel) rfl rfl : e_Sn 100 13 (o_clt 16 34)) t_100_16 t_100_34
noncomputable def n_100_11 : e_Y := u_push (.inl 2147483660) n_100_13
theorem t_100_11 : e_Sn 100 11 (e_un n_100_11) := u_pushT (s_bipush (n := (12)) hq_100 (by decide +kernel) rfl ⟨by decide +kernel, by decide +kernel⟩ : e_Sn 100 11 (o_push (.inl 2147483660) 13)) t_100_13
noncomputable def n_100_10 : e_Y := u_ld f_okI f_l2 n_100_11
theorem t_100_10 : e_Sn 100 10 (e_un n_100_10) := u_ldIT f_l2_eq (s_iload (i := .iload_n 2) (len := 1) hq_100 (by decide +kernel) rfl (.inr ⟨2, rfl, rfl, rfl⟩) : e_Sn 100 10 (o_load e_okI 2 11)) t_100_11
noncomputable def n_100_9 : e_Y := u_st f_okI f_s2 n_100_10
theorem t_100_9 : e_Sn 100 9 (e_un n_100_9) := u_stIT (fun _ _ _ => f_s2_eq) (s_istore (i := .istore_n 2) (len := 1) hq_100 (by decide +kernel) rfl (.inr ⟨2, rfl, rfl, rfl⟩) : e_Sn 100 9 (o_store e_okI 2 10)) t_100_10
noncomputable def n_100_8 : e_Y := u_push (.inl 2147483648) n_100_9
theorem t_100_8 : e_Sn 100 8 (e_un n_100_8) := u_pushT (s_iconst (n := (0)) hq_100 (by decide +kernel) rfl ⟨by decide +kernel, by decide +kernel⟩ : e_Sn 100 8 (o_push (.inl 2147483648) 9)) t_100_9
noncomputable def n_100_7 : e_Y := u_st f_okA f_s1 n_100_8
theorem t_100_7 : e_Sn 100 7 (e_un n_100_7) := u_stAT (fun _ _ _ => f_s1_eq) (s_astore (i := .astore_n 1) (len := 1) hq_100 (by decide +kernel) rfl (.inr ⟨1, rfl, rfl, rfl⟩) : e_Sn 100 7 (o_store e_okR 1 8)) t_100_8
noncomputable def n_100_4 : e_Y := u_callI 99 2 21 1 n_99_0 n_100_7
theorem t_100_4 : e_Sn 100 4 (e_un n_100_4) := u_callIT rfl (s_callI (index := 33) hq_100 ho_100 hy_99 hp_99 hc_99 hi_99 hd_99 (r_k9 (List.mem_of_getElem? (i := 1) (by decide +kernel))) rfl rfl hs_99 (by decide +kernel) rfl : e_Sn 100 4 (o_callI 99 2 1 7)) t_99_0 t_100_7
noncomputable def n_100_3 : e_Y := u_old (o_dup 4) n_100_4
theorem t_100_3 : e_Sn 100 3 (e_un n_100_3) := u_oldT (s_dup hq_100 (by decide +kernel) rfl : e_Sn 100 3 (o_dup 4)) t_100_4 e_cg_dup
noncomputable def n_100_0 : e_Y := u_tab (o_new 17 6 ef_17 3)
theorem t_100_0 : e_Sn 100 0 (e_un n_100_0) := u_tabT (s_new (index := 10) (ci := 17) (N := 6) (C := er_17) (T := et_17) (ty0 := ey_17) (fv := eg_17) hq_100 ho_100 rfl ei_17 eo_17 (r_k9 (List.mem_of_getElem? (i := 0) (by decide +kernel))) r_m_7_205 r_m_1_19 eh_17 rfl (e_newrel ek_17) (by decide +kernel) rfl : e_Sn 100 0 (o_new 17 6 ef_17 3))
noncomputable def e_tb_100 : e_X := (e_br 3 (e_lf 0 (e_un n_100_0)) (e_br 10 (e_lf 3 (e_un n_100_3)) (e_lf 10 (e_un n_100_10))))
theorem e_tk_100 : e_Tb 100 e_tb_100 := (e_brT (e_lfT t_100_0) (e_brT (e_lfT t_100_3) (e_lfT t_100_10)))
noncomputable def n_108_6 : e_Y := u_retA
theorem t_108_6 : e_Sn 108 6 (e_un n_108_6) := u_retAT (s_aret (.inl ⟨_, rfl⟩) hq_108 hr_108 (by decide +kernel) : e_Sn 108 6 (o_ret e_okR))
noncomputable def n_108_5 : e_Y := u_ald 3 (u_old (o_aldO 3 6) n_108_6) n_108_6
theorem t_108_5 : e_Sn 108 5 (e_un n_108_5) := u_aldOT (s_aald (tc := 0) rfl hq_108 (by decide +kernel) rfl : e_Sn 108 5 (o_aldO 3 6)) t_108_6
noncomputable def n_108_4 : e_Y := u_ld f_okI f_l1 n_108_5
theorem t_108_4 : e_Sn 108 4 (e_un n_108_4) := u_ldIT f_l1_eq (s_iload (i := .iload_n 1) (len := 1) hq_108 (by decide +kernel) rfl (.inr ⟨1, rfl, rfl, rfl⟩) : e_Sn 108 4 (o_load e_okI 1 5)) t_108_5
noncomputable def n_108_1 : e_Y := u_getf 19 0 (u_old (o_getf (e_f1 19 0) 4) n_108_4) n_108_4
theorem t_108_1 : e_Sn 108 1 (e_un n_108_1) := u_getfT (s_getf (C := er_19) (T := et_19) (N := 3) (ref := "java/util/ArrayList") (index := 9) (ci := 19) (k := 0) hq_108 ho_108 ⟨rfl, by decide, ei_19, r_m_7_187, .inl rfl⟩ (by decide +kernel) rfl : e_Sn 108 1 (o_getf (e_f1 19 0) 4)) t_108_4
noncomputable def n_108_0 : e_Y := u_ld f_okA f_l0 n_108_1
theorem t_108_0 : e_Sn 108 0 (e_un n_108_0) := u_ldAT f_l0_eq (s_aload (i := .aload_n 0) (len := 1) hq_108 (by decide +kernel) rfl (.inr ⟨0, rfl, rfl, rfl⟩) : e_Sn 108 0 (o_load e_okR 0 1)) t_108_1
noncomputable def e_tb_108 : e_X := (e_lf 0 (e_un n_108_0))
theorem e_tk_108 : e_Tb 108 e_tb_108 := (e_lfT t_108_0)
noncomputable def n_118_17 : e_Y := u_retI
theorem t_118_17 : e_Sn 118 17 (e_un n_118_17) := u_retIT (s_iret hq_118 hr_118 (by decide +kernel) : e_Sn 118 17 (o_ret e_okI))
noncomputable def n_118_16 : e_Y := u_ld f_okI f_l0 n_118_17
theorem t_118_16 : e_Sn 118 16 (e_un n_118_16) := u_ldIT f_l0_eq (s_iload (i := .iload_n 0) (len := 1) hq_118 (by decide +kernel) rfl (.inr ⟨0, rfl, rfl, rfl⟩) : e_Sn 118 16 (o_load e_okI 0 17)) t_118_17
noncomputable def n_118_6 : e_Y := u_jmp y_ge (u_old2 (o_clt 16 9) 16 n_118_16 (u_at 9)) n_118_16 (u_at 9)
theorem t_118_6 : e_Sn 118 6 (e_un n_118_6) := u_cltT rfl (s_clt (off := (10)) hq_118 (by decide +kernel) rfl rfl : e_Sn 118 6 (o_clt 16 9)) t_118_16 u_atT
noncomputable def n_118_5 : e_Y := u_ld f_okI f_l1 n_118_6
theorem t_118_5 : e_Sn 118 5 (e_un n_118_5) := u_ldIT f_l1_eq (s_iload (i := .iload_n 1) (len := 1) hq_118 (by decide +kernel) rfl (.inr ⟨1, rfl, rfl, rfl⟩) : e_Sn 118 5 (o_load e_okI 1 6)) t_118_6
noncomputable def n_118_4 : e_Y := u_ld f_okI f_l0 n_118_5
theorem t_118_4 : e_Sn 118 4 (e_un n_118_4) := u_ldIT f_l0_eq (s_iload (i := .iload_n 0) (len := 1) hq_118 (by decide +kernel) rfl (.inr ⟨0, rfl, rfl, rfl⟩) : e_Sn 118 4 (o_load e_okI 0 5)) t_118_5
noncomputable def n_118_1 : e_Y := u_if y_ge0 (u_old2 (o_iflt 9 4) 9 (u_at 9) n_118_4) (u_at 9) n_118_4
theorem t_118_1 : e_Sn 118 1 (e_un n_118_1) := u_ifltT rfl (s_iflt (off := (8)) hq_118 (by decide +kernel) rfl rfl : e_Sn 118 1 (o_iflt 9 4)) u_atT t_118_4
noncomputable def n_118_0 : e_Y := u_ld f_okI f_l0 n_118_1
theorem t_118_0 : e_Sn 118 0 (e_un n_118_0) := u_ldIT f_l0_eq (s_iload (i := .iload_n 0) (len := 1) hq_118 (by decide +kernel) rfl (.inr ⟨0, rfl, rfl, rfl⟩) : e_Sn 118 0 (o_load e_okI 0 1)) t_118_1
noncomputable def e_tb_118 : e_X := (e_lf 0 (e_un n_118_0))
theorem e_tk_118 : e_Tb 118 e_tb_118 := (e_lfT t_118_0)
noncomputable def n_117_6 : e_Y := u_retI
theorem t_117_6 : e_Sn 117 6 (e_un n_117_6) := u_retIT (s_iret hq_117 hr_117 (by decide +kernel) : e_Sn 117 6 (o_ret e_okI))
noncomputable def n_117_3 : e_Y := u_callS 118 3 22 3 n_118_0 n_117_6
theorem t_117_3 : e_Sn 117 3 (e_un n_117_3) := u_callST rfl (s_callS (index := 105) hq_117 ho_117 hy_118 hp_118 hc_118 hi_118 hd_118 r_m_8_203 hs_118 (by decide +kernel) rfl : e_Sn 117 3 (o_callS 118 3 3 6)) t_118_0 t_117_6
noncomputable def n_117_2 : e_Y := u_push e_N n_117_3
theorem t_117_2 : e_Sn 117 2 (e_un n_117_2) := u_pushT (s_null hq_117 (by decide +kernel) rfl : e_Sn 117 2 (o_push e_N 3)) t_117_3
noncomputable def n_117_1 : e_Y := u_ld f_okI f_l1 n_117_2
theorem t_117_1 : e_Sn 117 1 (e_un n_117_1) := u_ldIT f_l1_eq (s_iload (i := .iload_n 1) (len := 1) hq_117 (by decide +kernel) rfl (.inr ⟨1, rfl, rfl, rfl⟩) : e_Sn 117 1 (o_load e_okI 1 2)) t_117_2
noncomputable def n_117_0 : e_Y := u_ld f_okI f_l0 n_117_1
theorem t_117_0 : e_Sn 117 0 (e_un n_117_0) := u_ldIT f_l0_eq (s_iload (i := .iload_n 0) (len := 1) hq_117 (by decide +kernel) rfl (.inr ⟨0, rfl, rfl, rfl⟩) : e_Sn 117 0 (o_load e_okI 0 1)) t_117_1
noncomputable def e_tb_117 : e_X := (e_lf 0 (e_un n_117_0))
theorem e_tk_117 : e_Tb 117 e_tb_117 := (e_lfT t_117_0)
noncomputable def n_110_14 : e_Y := u_retA
theorem t_110_14 : e_Sn 110 14 (e_un n_110_14) := u_retAT (s_aret (.inl ⟨_, rfl⟩) hq_110 hr_110 (by decide +kernel) : e_Sn 110 14 (o_ret e_okR))
noncomputable def n_110_11 : e_Y := u_callV 19 108 2 21 2 n_108_0 n_110_14
theorem t_110_11 : e_Sn 110 11 (e_un n_110_11) := u_callVT rfl (s_callV (ci := 19) (C := er_19) (T := et_19) (N := 3) (index := 123) hq_110 ho_110 hy_108 hp_108 hc_108 hi_108 hd_108 r_m_8_232 hs_108 r_m_8_234 rfl (by decide +kernel) rfl : e_Sn 110 11 (o_callV (e_s1 19 108 2) 2 14)) t_108_0 t_110_14
noncomputable def n_110_10 : e_Y := u_ld f_okI f_l1 n_110_11
theorem t_110_10 : e_Sn 110 10 (e_un n_110_10) := u_ldIT f_l1_eq (s_iload (i := .iload_n 1) (len := 1) hq_110 (by decide +kernel) rfl (.inr ⟨1, rfl, rfl, rfl⟩) : e_Sn 110 10 (o_load e_okI 1 11)) t_110_11
noncomputable def n_110_9 : e_Y := u_ld f_okA f_l0 n_110_10
theorem t_110_9 : e_Sn 110 9 (e_un n_110_9) := u_ldAT f_l0_eq (s_aload (i := .aload_n 0) (len := 1) hq_110 (by decide +kernel) rfl (.inr ⟨0, rfl, rfl, rfl⟩) : e_Sn 110 9 (o_load e_okR 0 10)) t_110_10
noncomputable def n_110_8 : e_Y := u_pop n_110_9
theorem t_110_8 : e_Sn 110 8 (e_un n_110_8) := u_popT (s_pop hq_110 (by decide +kernel) rfl : e_Sn 110 8 (o_pop 9)) t_110_9
noncomputable def n_110_5 : e_Y := u_callS 117 2 21 2 n_117_0 n_110_8
theorem t_110_5 : e_Sn 110 5 (e_un n_110_5) := u_callST rfl (s_callS (index := 118) hq_110 ho_110 hy_117 hp_117 hc_117 hi_117 hd_117 r_m_8_200 hs_117 (by decide +kernel) rfl : e_Sn 110 5 (o_callS 117 2 2 8)) t_117_0 t_110_8
noncomputable def n_110_2 : e_Y := u_getf 19 1 (u_old (o_getf (e_f1 19 1) 5) n_110_5) n_110_5
theorem t_110_2 : e_Sn 110 2 (e_un n_110_2) := u_getfT (s_getf (C := er_19) (T := et_19) (N := 3) (ref := "java/util/ArrayList") (index := 48) (ci := 19) (k := 1) hq_110 ho_110 ⟨rfl, by decide, ei_19, r_m_7_190, .inl rfl⟩ (by decide +kernel) rfl : e_Sn 110 2 (o_getf (e_f1 19 1) 5)) t_110_5
noncomputable def n_110_1 : e_Y := u_ld f_okA f_l0 n_110_2
theorem t_110_1 : e_Sn 110 1 (e_un n_110_1) := u_ldAT f_l0_eq (s_aload (i := .aload_n 0) (len := 1) hq_110 (by decide +kernel) rfl (.inr ⟨0, rfl, rfl, rfl⟩) : e_Sn 110 1 (o_load e_okR 0 2)) t_110_2
noncomputable def nb_110 : e_Y := u_ld f_okI f_l1 n_110_1
theorem tb_110 : e_Sn 110 0 (e_un nb_110) := u_ldIT f_l1_eq (s_iload (i := .iload_n 1) (len := 1) hq_110 (by decide +kernel) rfl (.inr ⟨1, rfl, rfl, rfl⟩) : e_Sn 110 0 (o_load e_okI 1 1)) t_110_1
noncomputable def n_110_0 : e_Y := rq_nd (rq_getO (some (e_un nb_110)))
theorem t_110_0 : e_Sn 110 0 (e_un n_110_0) := rq_ndT (rq_getT (fun o h => by cases h; exact tb_110))
noncomputable def e_tb_110 : e_X := (e_lf 0 (e_un n_110_0))
theorem e_tk_110 : e_Tb 110 e_tb_110 := (e_lfT t_110_0)
theorem hq_115 : (e_ml[115]?).map (·.2.1) = some prog_50_method_23_code := Eq.trans (congrArg (Option.map (fun e => e.2.1)) hy_115) rfl
theorem ho_115 : (e_ml[115]?).map (·.1.cls) = some "java/util/ArrayList" := Eq.trans (congrArg (Option.map (fun e => e.1.cls)) hy_115) rfl
theorem hr_115 : (e_ml[115]?).map (·.2.2.2) = some (some (.object "java/lang/Object")) := Eq.trans (congrArg (Option.map (fun e => e.2.2.2)) hy_115) rfl
noncomputable def n_115_23 : e_Y := u_retA
theorem t_115_23 : e_Sn 115 23 (e_un n_115_23) := u_retAT (s_aret (.inl ⟨_, rfl⟩) hq_115 hr_115 (by decide +kernel) : e_Sn 115 23 (o_ret e_okR))
noncomputable def n_115_22 : e_Y := u_ld f_okA f_l3 n_115_23
theorem t_115_22 : e_Sn 115 22 (e_un n_115_22) := u_ldAT f_l3_eq (s_aload (i := .aload_n 3) (len := 1) hq_115 (by decide +kernel) rfl (.inr ⟨3, rfl, rfl, rfl⟩) : e_Sn 115 22 (o_load e_okR 3 23)) t_115_23
noncomputable def n_115_21 : e_Y := u_old (o_astR 3 (fun _ => false) 22) n_115_22
theorem t_115_21 : e_Sn 115 21 (e_un n_115_21) := u_oldT (s_aast (tc := 0) (E := "java/lang/Object") hq_115 rfl (by decide) (fun k hk => by cases hk) (by decide +kernel) rfl : e_Sn 115 21 (o_astR 3 (fun _ => false) 22)) t_115_22 (e_cg_astR 3 (fun _ => false))
noncomputable def n_115_20 : e_Y := u_ld f_okA f_l2 n_115_21
theorem t_115_20 : e_Sn 115 20 (e_un n_115_20) := u_ldAT f_l2_eq (s_aload (i := .aload_n 2) (len := 1) hq_115 (by decide +kernel) rfl (.inr ⟨2, rfl, rfl, rfl⟩) : e_Sn 115 20 (o_load e_okR 2 21)) t_115_21
noncomputable def n_115_19 : e_Y := u_ld f_okI f_l1 n_115_20
theorem t_115_19 : e_Sn 115 19 (e_un n_115_19) := u_ldIT f_l1_eq (s_iload (i := .iload_n 1) (len := 1) hq_115 (by decide +kernel) rfl (.inr ⟨1, rfl, rfl, rfl⟩) : e_Sn 115 19 (o_load e_okI 1 20)) t_115_20
noncomputable def n_115_16 : e_Y := u_getf 19 0 (u_old (o_getf (e_f1 19 0) 19) n_115_19) n_115_19
theorem t_115_16 : e_Sn 115 16 (e_un n_115_16) := u_getfT (s_getf (C := er_19) (T := et_19) (N := 3) (ref := "java/util/ArrayList") (index := 9) (ci := 19) (k := 0) hq_115 ho_115 ⟨rfl, by decide, ei_19, r_m_7_187, .inl rfl⟩ (by decide +kernel) rfl : e_Sn 115 16 (o_getf (e_f1 19 0) 19)) t_115_19
noncomputable def n_115_15 : e_Y := u_ld f_okA f_l0 n_115_16
theorem t_115_15 : e_Sn 115 15 (e_un n_115_15) := u_ldAT f_l0_eq (s_aload (i := .aload_n 0) (len := 1) hq_115 (by decide +kernel) rfl (.inr ⟨0, rfl, rfl, rfl⟩) : e_Sn 115 15 (o_load e_okR 0 16)) t_115_16
noncomputable def n_115_14 : e_Y := u_st f_okA f_s3 n_115_15
theorem t_115_14 : e_Sn 115 14 (e_un n_115_14) := u_stAT (fun _ _ _ => f_s3_eq) (s_astore (i := .astore_n 3) (len := 1) hq_115 (by decide +kernel) rfl (.inr ⟨3, rfl, rfl, rfl⟩) : e_Sn 115 14 (o_store e_okR 3 15)) t_115_15
noncomputable def n_115_11 : e_Y := u_callV 19 108 2 21 2 n_108_0 n_115_14
theorem t_115_11 : e_Sn 115 11 (e_un n_115_11) := u_callVT rfl (s_callV (ci := 19) (C := er_19) (T := et_19) (N := 3) (index := 123) hq_115 ho_115 hy_108 hp_108 hc_108 hi_108 hd_108 r_m_8_232 hs_108 r_m_8_234 rfl (by decide +kernel) rfl : e_Sn 115 11 (o_callV (e_s1 19 108 2) 2 14)) t_108_0 t_115_14
noncomputable def n_115_10 : e_Y := u_ld f_okI f_l1 n_115_11
theorem t_115_10 : e_Sn 115 10 (e_un n_115_10) := u_ldIT f_l1_eq (s_iload (i := .iload_n 1) (len := 1) hq_115 (by decide +kernel) rfl (.inr ⟨1, rfl, rfl, rfl⟩) : e_Sn 115 10 (o_load e_okI 1 11)) t_115_11
noncomputable def n_115_9 : e_Y := u_ld f_okA f_l0 n_115_10
theorem t_115_9 : e_Sn 115 9 (e_un n_115_9) := u_ldAT f_l0_eq (s_aload (i := .aload_n 0) (len := 1) hq_115 (by decide +kernel) rfl (.inr ⟨0, rfl, rfl, rfl⟩) : e_Sn 115 9 (o_load e_okR 0 10)) t_115_10
noncomputable def n_115_8 : e_Y := u_pop n_115_9
theorem t_115_8 : e_Sn 115 8 (e_un n_115_8) := u_popT (s_pop hq_115 (by decide +kernel) rfl : e_Sn 115 8 (o_pop 9)) t_115_9
noncomputable def n_115_5 : e_Y := u_callS 117 2 21 2 n_117_0 n_115_8
theorem t_115_5 : e_Sn 115 5 (e_un n_115_5) := u_callST rfl (s_callS (index := 118) hq_115 ho_115 hy_117 hp_117 hc_117 hi_117 hd_117 r_m_8_200 hs_117 (by decide +kernel) rfl : e_Sn 115 5 (o_callS 117 2 2 8)) t_117_0 t_115_8
noncomputable def n_115_2 : e_Y := u_getf 19 1 (u_old (o_getf (e_f1 19 1) 5) n_115_5) n_115_5
theorem t_115_2 : e_Sn 115 2 (e_un n_115_2) := u_getfT (s_getf (C := er_19) (T := et_19) (N := 3) (ref := "java/util/ArrayList") (index := 48) (ci := 19) (k := 1) hq_115 ho_115 ⟨rfl, by decide, ei_19, r_m_7_190, .inl rfl⟩ (by decide +kernel) rfl : e_Sn 115 2 (o_getf (e_f1 19 1) 5)) t_115_5
noncomputable def n_115_1 : e_Y := u_ld f_okA f_l0 n_115_2
theorem t_115_1 : e_Sn 115 1 (e_un n_115_1) := u_ldAT f_l0_eq (s_aload (i := .aload_n 0) (len := 1) hq_115 (by decide +kernel) rfl (.inr ⟨0, rfl, rfl, rfl⟩) : e_Sn 115 1 (o_load e_okR 0 2)) t_115_2
noncomputable def n_115_0 : e_Y := u_ld f_okI f_l1 n_115_1
theorem t_115_0 : e_Sn 115 0 (e_un n_115_0) := u_ldIT f_l1_eq (s_iload (i := .iload_n 1) (len := 1) hq_115 (by decide +kernel) rfl (.inr ⟨1, rfl, rfl, rfl⟩) : e_Sn 115 0 (o_load e_okI 1 1)) t_115_1
noncomputable def e_tb_115 : e_X := (e_lf 0 (e_un n_115_0))
theorem e_tk_115 : e_Tb 115 e_tb_115 := (e_lfT t_115_0)
theorem hq_76 : (e_ml[76]?).map (·.2.1) = some prog_17_method_2_code := Eq.trans (congrArg (Option.map (fun e => e.2.1)) hy_76) rfl
theorem ho_76 : (e_ml[76]?).map (·.1.cls) = some "PlateroomprinterModel$Machine" := Eq.trans (congrArg (Option.map (fun e => e.1.cls)) hy_76) rfl
theorem hr_76 : (e_ml[76]?).map (·.2.2.2) = some (some (.object "PlateroomprinterModel$Machine")) := Eq.trans (congrArg (Option.map (fun e => e.2.2.2)) hy_76) rfl
noncomputable def n_76_258 : e_Y := u_retA
theorem t_76_258 : e_Sn 76 258 (e_un n_76_258) := u_retAT (s_aret (.inl ⟨_, rfl⟩) hq_76 hr_76 (by decide +kernel) : e_Sn 76 258 (o_ret e_okR))
noncomputable def n_76_257 : e_Y := u_ld f_okA f_l1 n_76_258
theorem t_76_257 : e_Sn 76 257 (e_un n_76_257) := u_ldAT f_l1_eq (s_aload (i := .aload_n 1) (len := 1) hq_76 (by decide +kernel) rfl (.inr ⟨1, rfl, rfl, rfl⟩) : e_Sn 76 257 (o_load e_okR 1 258)) t_76_258
noncomputable def n_76_254 : e_Y := u_putf 14 12 f_okA (u_old (o_putf (e_f1 14 12) e_okR 257) n_76_257) n_76_257
theorem t_76_254 : e_Sn 76 254 (e_un n_76_254) := u_putfT (fun _ => f_okA_eq) (s_putf (ty0 := ey_14) (ok := e_okR) (C := er_14) (T := et_14) (N := 13) (ref := "PlateroomprinterModel$Machine") (index := 44) (ci := 14) (k := 12) hq_76 ho_76 ⟨rfl, by decide, ei_14, r_m_8_109, .inl rfl⟩ eo_14 en_14 e_oksA (.inl rfl) (by decide +kernel) rfl : e_Sn 76 254 (o_putf (e_f1 14 12) e_okR 257)) t_76_257
noncomputable def n_76_251 : e_Y := u_callS 63 3 22 1 n_63_0 n_76_254
theorem t_76_251 : e_Sn 76 251 (e_un n_76_251) := u_callST rfl (s_callSN (host := "PlateroomprinterModel") (index := 91) hq_76 ho_76 hy_63 hp_63 hc_63 hi_63 hd_63 (r_k9 (List.mem_of_getElem? (i := 46) (by decide +kernel))) hs_63 (by decide +kernel) rfl : e_Sn 76 251 (o_callS 63 3 1 254)) t_63_0 t_76_254
noncomputable def n_76_248 : e_Y := u_getf 14 12 (u_old (o_getf (e_f1 14 12) 251) n_76_251) n_76_251
theorem t_76_248 : e_Sn 76 248 (e_un n_76_248) := u_getfT (s_getf (C := er_14) (T := et_14) (N := 13) (ref := "PlateroomprinterModel$Machine") (index := 44) (ci := 14) (k := 12) hq_76 ho_76 ⟨rfl, by decide, ei_14, r_m_8_109, .inl rfl⟩ (by decide +kernel) rfl : e_Sn 76 248 (o_getf (e_f1 14 12) 251)) t_76_251
noncomputable def n_76_247 : e_Y := u_ld f_okA f_l0 n_76_248
theorem t_76_247 : e_Sn 76 247 (e_un n_76_247) := u_ldAT f_l0_eq (s_aload (i := .aload_n 0) (len := 1) hq_76 (by decide +kernel) rfl (.inr ⟨0, rfl, rfl, rfl⟩) : e_Sn 76 247 (o_load e_okR 0 248)) t_76_248
noncomputable def n_76_246 : e_Y := u_ld f_okA f_l1 n_76_247
theorem t_76_246 : e_Sn 76 246 (e_un n_76_246) := u_ldAT f_l1_eq (s_aload (i := .aload_n 1) (len := 1) hq_76 (by decide +kernel) rfl (.inr ⟨1, rfl, rfl, rfl⟩) : e_Sn 76 246 (o_load e_okR 1 247)) t_76_247
noncomputable def n_76_243 : e_Y := u_putf 14 11 f_okI (u_old (o_putf (e_f1 14 11) e_okI 246) n_76_246) n_76_246
theorem t_76_243 : e_Sn 76 243 (e_un n_76_243) := u_putfT (fun _ => f_okI_eq) (s_putf (ty0 := ey_14) (ok := e_okI) (C := er_14) (T := et_14) (N := 13) (ref := "PlateroomprinterModel$Machine") (index := 88) (ci := 14) (k := 11) hq_76 ho_76 ⟨rfl, by decide, ei_14, r_m_8_106, .inl rfl⟩ eo_14 en_14 e_oksI (.inl rfl) (by decide +kernel) rfl : e_Sn 76 243 (o_putf (e_f1 14 11) e_okI 246)) t_76_246
noncomputable def n_76_240 : e_Y := u_getf 14 11 (u_old (o_getf (e_f1 14 11) 243) n_76_243) n_76_243
theorem t_76_240 : e_Sn 76 240 (e_un n_76_240) := u_getfT (s_getf (C := er_14) (T := et_14) (N := 13) (ref := "PlateroomprinterModel$Machine") (index := 88) (ci := 14) (k := 11) hq_76 ho_76 ⟨rfl, by decide, ei_14, r_m_8_106, .inl rfl⟩ (by decide +kernel) rfl : e_Sn 76 240 (o_getf (e_f1 14 11) 243)) t_76_243
noncomputable def n_76_239 : e_Y := u_ld f_okA f_l0 n_76_240
theorem t_76_239 : e_Sn 76 239 (e_un n_76_239) := u_ldAT f_l0_eq (s_aload (i := .aload_n 0) (len := 1) hq_76 (by decide +kernel) rfl (.inr ⟨0, rfl, rfl, rfl⟩) : e_Sn 76 239 (o_load e_okR 0 240)) t_76_240
noncomputable def n_76_238 : e_Y := u_ld f_okA f_l1 n_76_239
theorem t_76_238 : e_Sn 76 238 (e_un n_76_238) := u_ldAT f_l1_eq (s_aload (i := .aload_n 1) (len := 1) hq_76 (by decide +kernel) rfl (.inr ⟨1, rfl, rfl, rfl⟩) : e_Sn 76 238 (o_load e_okR 1 239)) t_76_239
noncomputable def n_76_235 : e_Y := u_putf 14 10 f_okI (u_old (o_putf (e_f1 14 10) e_okI 238) n_76_238) n_76_238
theorem t_76_235 : e_Sn 76 235 (e_un n_76_235) := u_putfT (fun _ => f_okI_eq) (s_putf (ty0 := ey_14) (ok := e_okI) (C := er_14) (T := et_14) (N := 13) (ref := "PlateroomprinterModel$Machine") (index := 85) (ci := 14) (k := 10) hq_76 ho_76 ⟨rfl, by decide, ei_14, r_m_8_103, .inl rfl⟩ eo_14 en_14 e_oksI (.inl rfl) (by decide +kernel) rfl : e_Sn 76 235 (o_putf (e_f1 14 10) e_okI 238)) t_76_238
noncomputable def n_76_232 : e_Y := u_getf 14 10 (u_old (o_getf (e_f1 14 10) 235) n_76_235) n_76_235
theorem t_76_232 : e_Sn 76 232 (e_un n_76_232) := u_getfT (s_getf (C := er_14) (T := et_14) (N := 13) (ref := "PlateroomprinterModel$Machine") (index := 85) (ci := 14) (k := 10) hq_76 ho_76 ⟨rfl, by decide, ei_14, r_m_8_103, .inl rfl⟩ (by decide +kernel) rfl : e_Sn 76 232 (o_getf (e_f1 14 10) 235)) t_76_235
noncomputable def n_76_231 : e_Y := u_ld f_okA f_l0 n_76_232
theorem t_76_231 : e_Sn 76 231 (e_un n_76_231) := u_ldAT f_l0_eq (s_aload (i := .aload_n 0) (len := 1) hq_76 (by decide +kernel) rfl (.inr ⟨0, rfl, rfl, rfl⟩) : e_Sn 76 231 (o_load e_okR 0 232)) t_76_232
noncomputable def n_76_230 : e_Y := u_ld f_okA f_l1 n_76_231
theorem t_76_230 : e_Sn 76 230 (e_un n_76_230) := u_ldAT f_l1_eq (s_aload (i := .aload_n 1) (len := 1) hq_76 (by decide +kernel) rfl (.inr ⟨1, rfl, rfl, rfl⟩) : e_Sn 76 230 (o_load e_okR 1 231)) t_76_231
noncomputable def n_76_227 : e_Y := u_putf 14 9 f_okI (u_old (o_putf (e_f1 14 9) e_okI 230) n_76_230) n_76_230
theorem t_76_227 : e_Sn 76 227 (e_un n_76_227) := u_putfT (fun _ => f_okI_eq) (s_putf (ty0 := ey_14) (ok := e_okI) (C := er_14) (T := et_14) (N := 13) (ref := "PlateroomprinterModel$Machine") (index := 82) (ci := 14) (k := 9) hq_76 ho_76 ⟨rfl, by decide, ei_14, r_m_8_100, .inl rfl⟩ eo_14 en_14 e_oksI (.inl rfl) (by decide +kernel) rfl : e_Sn 76 227 (o_putf (e_f1 14 9) e_okI 230)) t_76_230
noncomputable def n_76_224 : e_Y := u_getf 14 9 (u_old (o_getf (e_f1 14 9) 227) n_76_227) n_76_227
theorem t_76_224 : e_Sn 76 224 (e_un n_76_224) := u_getfT (s_getf (C := er_14) (T := et_14) (N := 13) (ref := "PlateroomprinterModel$Machine") (index := 82) (ci := 14) (k := 9) hq_76 ho_76 ⟨rfl, by decide, ei_14, r_m_8_100, .inl rfl⟩ (by decide +kernel) rfl : e_Sn 76 224 (o_getf (e_f1 14 9) 227)) t_76_227
noncomputable def n_76_223 : e_Y := u_ld f_okA f_l0 n_76_224
theorem t_76_223 : e_Sn 76 223 (e_un n_76_223) := u_ldAT f_l0_eq (s_aload (i := .aload_n 0) (len := 1) hq_76 (by decide +kernel) rfl (.inr ⟨0, rfl, rfl, rfl⟩) : e_Sn 76 223 (o_load e_okR 0 224)) t_76_224
noncomputable def n_76_222 : e_Y := u_ld f_okA f_l1 n_76_223
theorem t_76_222 : e_Sn 76 222 (e_un n_76_222) := u_ldAT f_l1_eq (s_aload (i := .aload_n 1) (len := 1) hq_76 (by decide +kernel) rfl (.inr ⟨1, rfl, rfl, rfl⟩) : e_Sn 76 222 (o_load e_okR 1 223)) t_76_223
noncomputable def n_76_219 : e_Y := u_putf 14 8 f_okI (u_old (o_putf (e_f1 14 8) e_okI 222) n_76_222) n_76_222
theorem t_76_219 : e_Sn 76 219 (e_un n_76_219) := u_putfT (fun _ => f_okI_eq) (s_putf (ty0 := ey_14) (ok := e_okI) (C := er_14) (T := et_14) (N := 13) (ref := "PlateroomprinterModel$Machine") (index := 78) (ci := 14) (k := 8) hq_76 ho_76 ⟨rfl, by decide, ei_14, r_m_8_97, .inl rfl⟩ eo_14 en_14 e_oksI (.inl rfl) (by decide +kernel) rfl : e_Sn 76 219 (o_putf (e_f1 14 8) e_okI 222)) t_76_222
noncomputable def n_76_216 : e_Y := u_getf 14 8 (u_old (o_getf (e_f1 14 8) 219) n_76_219) n_76_219
theorem t_76_216 : e_Sn 76 216 (e_un n_76_216) := u_getfT (s_getf (C := er_14) (T := et_14) (N := 13) (ref := "PlateroomprinterModel$Machine") (index := 78) (ci := 14) (k := 8) hq_76 ho_76 ⟨rfl, by decide, ei_14, r_m_8_97, .inl rfl⟩ (by decide +kernel) rfl : e_Sn 76 216 (o_getf (e_f1 14 8) 219)) t_76_219
noncomputable def n_76_215 : e_Y := u_ld f_okA f_l0 n_76_216
theorem t_76_215 : e_Sn 76 215 (e_un n_76_215) := u_ldAT f_l0_eq (s_aload (i := .aload_n 0) (len := 1) hq_76 (by decide +kernel) rfl (.inr ⟨0, rfl, rfl, rfl⟩) : e_Sn 76 215 (o_load e_okR 0 216)) t_76_216
noncomputable def n_76_214 : e_Y := u_ld f_okA f_l1 n_76_215
theorem t_76_214 : e_Sn 76 214 (e_un n_76_214) := u_ldAT f_l1_eq (s_aload (i := .aload_n 1) (len := 1) hq_76 (by decide +kernel) rfl (.inr ⟨1, rfl, rfl, rfl⟩) : e_Sn 76 214 (o_load e_okR 1 215)) t_76_215
noncomputable def n_76_211 : e_Y := u_putf 14 7 f_okA (u_old (o_putf (e_f1 14 7) e_okR 214) n_76_214) n_76_214
theorem t_76_211 : e_Sn 76 211 (e_un n_76_211) := u_putfT (fun _ => f_okA_eq) (s_putf (ty0 := ey_14) (ok := e_okR) (C := er_14) (T := et_14) (N := 13) (ref := "PlateroomprinterModel$Machine") (index := 75) (ci := 14) (k := 7) hq_76 ho_76 ⟨rfl, by decide, ei_14, r_m_8_94, .inl rfl⟩ eo_14 en_14 e_oksA (.inl rfl) (by decide +kernel) rfl : e_Sn 76 211 (o_putf (e_f1 14 7) e_okR 214)) t_76_214
noncomputable def n_76_208 : e_Y := u_getf 14 7 (u_old (o_getf (e_f1 14 7) 211) n_76_211) n_76_211
theorem t_76_208 : e_Sn 76 208 (e_un n_76_208) := u_getfT (s_getf (C := er_14) (T := et_14) (N := 13) (ref := "PlateroomprinterModel$Machine") (index := 75) (ci := 14) (k := 7) hq_76 ho_76 ⟨rfl, by decide, ei_14, r_m_8_94, .inl rfl⟩ (by decide +kernel) rfl : e_Sn 76 208 (o_getf (e_f1 14 7) 211)) t_76_211
noncomputable def n_76_207 : e_Y := u_ld f_okA f_l0 n_76_208
theorem t_76_207 : e_Sn 76 207 (e_un n_76_207) := u_ldAT f_l0_eq (s_aload (i := .aload_n 0) (len := 1) hq_76 (by decide +kernel) rfl (.inr ⟨0, rfl, rfl, rfl⟩) : e_Sn 76 207 (o_load e_okR 0 208)) t_76_208
noncomputable def n_76_206 : e_Y := u_ld f_okA f_l1 n_76_207
theorem t_76_206 : e_Sn 76 206 (e_un n_76_206) := u_ldAT f_l1_eq (s_aload (i := .aload_n 1) (len := 1) hq_76 (by decide +kernel) rfl (.inr ⟨1, rfl, rfl, rfl⟩) : e_Sn 76 206 (o_load e_okR 1 207)) t_76_207
noncomputable def n_76_203 : e_Y := u_putf 14 6 f_okA (u_old (o_putf (e_f1 14 6) e_okR 206) n_76_206) n_76_206
theorem t_76_203 : e_Sn 76 203 (e_un n_76_203) := u_putfT (fun _ => f_okA_eq) (s_putf (ty0 := ey_14) (ok := e_okR) (C := er_14) (T := et_14) (N := 13) (ref := "PlateroomprinterModel$Machine") (index := 40) (ci := 14) (k := 6) hq_76 ho_76 ⟨rfl, by decide, ei_14, r_m_8_91, .inl rfl⟩ eo_14 en_14 e_oksA (.inl rfl) (by decide +kernel) rfl : e_Sn 76 203 (o_putf (e_f1 14 6) e_okR 206)) t_76_206
noncomputable def n_76_200 : e_Y := u_callS 64 3 22 1 n_64_0 n_76_203
theorem t_76_200 : e_Sn 76 200 (e_un n_76_200) := u_callST rfl (s_callSN (host := "PlateroomprinterModel") (index := 71) hq_76 ho_76 hy_64 hp_64 hc_64 hi_64 hd_64 (r_k9 (List.mem_of_getElem? (i := 45) (by decide +kernel))) hs_64 (by decide +kernel) rfl : e_Sn 76 200 (o_callS 64 3 1 203)) t_64_0 t_76_203
noncomputable def n_76_197 : e_Y := u_getf 14 6 (u_old (o_getf (e_f1 14 6) 200) n_76_200) n_76_200
theorem t_76_197 : e_Sn 76 197 (e_un n_76_197) := u_getfT (s_getf (C := er_14) (T := et_14) (N := 13) (ref := "PlateroomprinterModel$Machine") (index := 40) (ci := 14) (k := 6) hq_76 ho_76 ⟨rfl, by decide, ei_14, r_m_8_91, .inl rfl⟩ (by decide +kernel) rfl : e_Sn 76 197 (o_getf (e_f1 14 6) 200)) t_76_200
noncomputable def n_76_196 : e_Y := u_ld f_okA f_l0 n_76_197
theorem t_76_196 : e_Sn 76 196 (e_un n_76_196) := u_ldAT f_l0_eq (s_aload (i := .aload_n 0) (len := 1) hq_76 (by decide +kernel) rfl (.inr ⟨0, rfl, rfl, rfl⟩) : e_Sn 76 196 (o_load e_okR 0 197)) t_76_197
noncomputable def n_76_195 : e_Y := u_ld f_okA f_l1 n_76_196
theorem t_76_195 : e_Sn 76 195 (e_un n_76_195) := u_ldAT f_l1_eq (s_aload (i := .aload_n 1) (len := 1) hq_76 (by decide +kernel) rfl (.inr ⟨1, rfl, rfl, rfl⟩) : e_Sn 76 195 (o_load e_okR 1 196)) t_76_196
noncomputable def n_76_167 : e_Y := u_jmp y_ge (u_old2 (o_clt 170 195) 170 (u_at 170) n_76_195) (u_at 170) n_76_195
theorem t_76_167 : e_Sn 76 167 (e_un n_76_167) := u_cltT rfl (s_cge (off := (28)) hq_76 (by decide +kernel) rfl rfl : e_Sn 76 167 (o_clt 170 195)) u_atT t_76_195
noncomputable def n_76_164 : e_Y := u_callV 19 116 1 20 1 n_116_0 n_76_167
theorem t_76_164 : e_Sn 76 164 (e_un n_76_164) := u_callVT rfl (s_callV (ci := 19) (C := er_19) (T := et_19) (N := 3) (index := 53) hq_76 ho_76 hy_116 hp_116 hc_116 hi_116 hd_116 r_m_8_227 hs_116 r_m_8_181 rfl (by decide +kernel) rfl : e_Sn 76 164 (o_callV (e_s1 19 116 1) 1 167)) t_116_0 t_76_167
noncomputable def n_76_161 : e_Y := u_getf 14 5 (u_old (o_getf (e_f1 14 5) 164) n_76_164) n_76_164
theorem t_76_161 : e_Sn 76 161 (e_un n_76_161) := u_getfT (s_getf (C := er_14) (T := et_14) (N := 13) (ref := "PlateroomprinterModel$Machine") (index := 37) (ci := 14) (k := 5) hq_76 ho_76 ⟨rfl, by decide, ei_14, r_m_8_88, .inl rfl⟩ (by decide +kernel) rfl : e_Sn 76 161 (o_getf (e_f1 14 5) 164)) t_76_164
noncomputable def n_76_160 : e_Y := u_ld f_okA f_l0 n_76_161
theorem t_76_160 : e_Sn 76 160 (e_un n_76_160) := u_ldAT f_l0_eq (s_aload (i := .aload_n 0) (len := 1) hq_76 (by decide +kernel) rfl (.inr ⟨0, rfl, rfl, rfl⟩) : e_Sn 76 160 (o_load e_okR 0 161)) t_76_161
noncomputable def n_76_159 : e_Y := u_ld f_okI f_l2 n_76_160
theorem t_76_159 : e_Sn 76 159 (e_un n_76_159) := u_ldIT f_l2_eq (s_iload (i := .iload_n 2) (len := 1) hq_76 (by decide +kernel) rfl (.inr ⟨2, rfl, rfl, rfl⟩) : e_Sn 76 159 (o_load e_okI 2 160)) t_76_160
noncomputable def n_76_158 : e_Y := u_st f_okI f_s2 n_76_159
theorem t_76_158 : e_Sn 76 158 (e_un n_76_158) := u_stIT (fun _ _ _ => f_s2_eq) (s_istore (i := .istore_n 2) (len := 1) hq_76 (by decide +kernel) rfl (.inr ⟨2, rfl, rfl, rfl⟩) : e_Sn 76 158 (o_store e_okI 2 159)) t_76_159
noncomputable def n_76_157 : e_Y := u_push (.inl 2147483648) n_76_158
theorem t_76_157 : e_Sn 76 157 (e_un n_76_157) := u_pushT (s_iconst (n := (0)) hq_76 (by decide +kernel) rfl ⟨by decide +kernel, by decide +kernel⟩ : e_Sn 76 157 (o_push (.inl 2147483648) 158)) t_76_158
noncomputable def n_76_154 : e_Y := (u_at 126)
theorem t_76_154 : e_Sn 76 154 (e_un n_76_154) := u_gotoT (s_goto (off := (-28)) hq_76 (by decide +kernel) rfl : e_Sn 76 154 (o_goto 126)) u_atT
noncomputable def n_76_151 : e_Y := u_inc f_l2 f_s2 1 n_76_154
theorem t_76_151 : e_Sn 76 151 (e_un n_76_151) := u_incT f_l2_eq (fun _ _ _ => f_s2_eq) (s_iinc (zz := (1)) hq_76 (by decide +kernel) rfl (by decide +kernel) ⟨by decide, by decide⟩ : e_Sn 76 151 (o_iinc 2 1 154)) t_76_154
noncomputable def n_76_150 : e_Y := u_pop n_76_151
theorem t_76_150 : e_Sn 76 150 (e_un n_76_150) := u_popT (s_pop hq_76 (by decide +kernel) rfl : e_Sn 76 150 (o_pop 151)) t_76_151
noncomputable def n_76_147 : e_Y := u_callV 19 115 4 23 3 n_115_0 n_76_150
theorem t_76_147 : e_Sn 76 147 (e_un n_76_147) := u_callVT rfl (s_callV (ci := 19) (C := er_19) (T := et_19) (N := 3) (index := 65) hq_76 ho_76 hy_115 hp_115 hc_115 hi_115 hd_115 (r_k9 (List.mem_of_getElem? (i := 40) (by decide +kernel))) hs_115 (r_k9 (List.mem_of_getElem? (i := 42) (by decide +kernel))) rfl (by decide +kernel) rfl : e_Sn 76 147 (o_callV (e_s1 19 115 4) 3 150)) t_115_0 t_76_150
noncomputable def n_76_144 : e_Y := u_old (o_cast 19 147) n_76_147
theorem t_76_144 : e_Sn 76 144 (e_un n_76_144) := u_oldT (s_cast (index := 9) hq_76 ho_76 r_m_7_173 (.inl ⟨by decide, rfl⟩) (by decide +kernel) rfl : e_Sn 76 144 (o_cast 19 147)) t_76_147 (e_cg_cast 19)
noncomputable def n_76_141 : e_Y := u_callV 19 110 2 21 2 n_110_0 n_76_144
theorem t_76_141 : e_Sn 76 141 (e_un n_76_141) := u_callVT rfl (s_callV (ci := 19) (C := er_19) (T := et_19) (N := 3) (index := 57) hq_76 ho_76 hy_110 hp_110 hc_110 hi_110 hd_110 (r_k8 (List.mem_of_getElem? (i := 228) (by decide +kernel))) hs_110 r_m_8_230 rfl (by decide +kernel) rfl : e_Sn 76 141 (o_callV (e_s1 19 110 2) 2 144)) t_110_0 t_76_144
noncomputable def n_76_140 : e_Y := u_ld f_okI f_l2 n_76_141
theorem t_76_140 : e_Sn 76 140 (e_un n_76_140) := u_ldIT f_l2_eq (s_iload (i := .iload_n 2) (len := 1) hq_76 (by decide +kernel) rfl (.inr ⟨2, rfl, rfl, rfl⟩) : e_Sn 76 140 (o_load e_okI 2 141)) t_76_141
noncomputable def n_76_137 : e_Y := u_getf 14 4 (u_old (o_getf (e_f1 14 4) 140) n_76_140) n_76_140
theorem t_76_137 : e_Sn 76 137 (e_un n_76_137) := u_getfT (s_getf (C := er_14) (T := et_14) (N := 13) (ref := "PlateroomprinterModel$Machine") (index := 34) (ci := 14) (k := 4) hq_76 ho_76 ⟨rfl, by decide, ei_14, r_m_8_85, .inl rfl⟩ (by decide +kernel) rfl : e_Sn 76 137 (o_getf (e_f1 14 4) 140)) t_76_140
noncomputable def n_76_136 : e_Y := u_ld f_okA f_l0 n_76_137
theorem t_76_136 : e_Sn 76 136 (e_un n_76_136) := u_ldAT f_l0_eq (s_aload (i := .aload_n 0) (len := 1) hq_76 (by decide +kernel) rfl (.inr ⟨0, rfl, rfl, rfl⟩) : e_Sn 76 136 (o_load e_okR 0 137)) t_76_137
noncomputable def n_76_135 : e_Y := u_ld f_okI f_l2 n_76_136
theorem t_76_135 : e_Sn 76 135 (e_un n_76_135) := u_ldIT f_l2_eq (s_iload (i := .iload_n 2) (len := 1) hq_76 (by decide +kernel) rfl (.inr ⟨2, rfl, rfl, rfl⟩) : e_Sn 76 135 (o_load e_okI 2 136)) t_76_136
noncomputable def n_76_132 : e_Y := u_getf 14 4 (u_old (o_getf (e_f1 14 4) 135) n_76_135) n_76_135
theorem t_76_132 : e_Sn 76 132 (e_un n_76_132) := u_getfT (s_getf (C := er_14) (T := et_14) (N := 13) (ref := "PlateroomprinterModel$Machine") (index := 34) (ci := 14) (k := 4) hq_76 ho_76 ⟨rfl, by decide, ei_14, r_m_8_85, .inl rfl⟩ (by decide +kernel) rfl : e_Sn 76 132 (o_getf (e_f1 14 4) 135)) t_76_135
noncomputable def n_76_131 : e_Y := u_ld f_okA f_l1 n_76_132
theorem t_76_131 : e_Sn 76 131 (e_un n_76_131) := u_ldAT f_l1_eq (s_aload (i := .aload_n 1) (len := 1) hq_76 (by decide +kernel) rfl (.inr ⟨1, rfl, rfl, rfl⟩) : e_Sn 76 131 (o_load e_okR 1 132)) t_76_132
noncomputable def n_76_128 : e_Y := u_jmp y_ge (u_old2 (o_clt 131 157) 131 n_76_131 n_76_157) n_76_131 n_76_157
theorem t_76_128 : e_Sn 76 128 (e_un n_76_128) := u_cltT rfl (s_cge (off := (29)) hq_76 (by decide +kernel) rfl rfl : e_Sn 76 128 (o_clt 131 157)) t_76_131 t_76_157
noncomputable def n_76_127 : e_Y := u_push (.inl 2147483653) n_76_128
theorem t_76_127 : e_Sn 76 127 (e_un n_76_127) := u_pushT (s_iconst (n := (5)) hq_76 (by decide +kernel) rfl ⟨by decide +kernel, by decide +kernel⟩ : e_Sn 76 127 (o_push (.inl 2147483653) 128)) t_76_128
noncomputable def n_76_126 : e_Y := u_ld f_okI f_l2 n_76_127
theorem t_76_126 : e_Sn 76 126 (e_un n_76_126) := u_ldIT f_l2_eq (s_iload (i := .iload_n 2) (len := 1) hq_76 (by decide +kernel) rfl (.inr ⟨2, rfl, rfl, rfl⟩) : e_Sn 76 126 (o_load e_okI 2 127)) t_76_127
noncomputable def n_76_125 : e_Y := u_st f_okI f_s2 n_76_126
theorem t_76_125 : e_Sn 76 125 (e_un n_76_125) := u_stIT (fun _ _ _ => f_s2_eq) (s_istore (i := .istore_n 2) (len := 1) hq_76 (by decide +kernel) rfl (.inr ⟨2, rfl, rfl, rfl⟩) : e_Sn 76 125 (o_store e_okI 2 126)) t_76_126
noncomputable def n_76_124 : e_Y := u_push (.inl 2147483648) n_76_125
theorem t_76_124 : e_Sn 76 124 (e_un n_76_124) := u_pushT (s_iconst (n := (0)) hq_76 (by decide +kernel) rfl ⟨by decide +kernel, by decide +kernel⟩ : e_Sn 76 124 (o_push (.inl 2147483648) 125)) t_76_125
noncomputable def n_76_93 : e_Y := u_jmp y_ge (u_old2 (o_clt 96 124) 96 (u_at 96) n_76_124) (u_at 96) n_76_124
theorem t_76_93 : e_Sn 76 93 (e_un n_76_93) := u_cltT rfl (s_cge (off := (31)) hq_76 (by decide +kernel) rfl rfl : e_Sn 76 93 (o_clt 96 124)) u_atT t_76_124
noncomputable def n_76_90 : e_Y := u_callV 19 116 1 20 1 n_116_0 n_76_93
theorem t_76_90 : e_Sn 76 90 (e_un n_76_90) := u_callVT rfl (s_callV (ci := 19) (C := er_19) (T := et_19) (N := 3) (index := 53) hq_76 ho_76 hy_116 hp_116 hc_116 hi_116 hd_116 r_m_8_227 hs_116 r_m_8_181 rfl (by decide +kernel) rfl : e_Sn 76 90 (o_callV (e_s1 19 116 1) 1 93)) t_116_0 t_76_93
noncomputable def n_76_87 : e_Y := u_getf 14 3 (u_old (o_getf (e_f1 14 3) 90) n_76_90) n_76_90
theorem t_76_87 : e_Sn 76 87 (e_un n_76_87) := u_getfT (s_getf (C := er_14) (T := et_14) (N := 13) (ref := "PlateroomprinterModel$Machine") (index := 31) (ci := 14) (k := 3) hq_76 ho_76 ⟨rfl, by decide, ei_14, r_m_8_82, .inl rfl⟩ (by decide +kernel) rfl : e_Sn 76 87 (o_getf (e_f1 14 3) 90)) t_76_90
noncomputable def n_76_86 : e_Y := u_ld f_okA f_l0 n_76_87
theorem t_76_86 : e_Sn 76 86 (e_un n_76_86) := u_ldAT f_l0_eq (s_aload (i := .aload_n 0) (len := 1) hq_76 (by decide +kernel) rfl (.inr ⟨0, rfl, rfl, rfl⟩) : e_Sn 76 86 (o_load e_okR 0 87)) t_76_87
noncomputable def n_76_85 : e_Y := u_ld f_okI f_l2 n_76_86
theorem t_76_85 : e_Sn 76 85 (e_un n_76_85) := u_ldIT f_l2_eq (s_iload (i := .iload_n 2) (len := 1) hq_76 (by decide +kernel) rfl (.inr ⟨2, rfl, rfl, rfl⟩) : e_Sn 76 85 (o_load e_okI 2 86)) t_76_86
noncomputable def n_76_84 : e_Y := u_st f_okI f_s2 n_76_85
theorem t_76_84 : e_Sn 76 84 (e_un n_76_84) := u_stIT (fun _ _ _ => f_s2_eq) (s_istore (i := .istore_n 2) (len := 1) hq_76 (by decide +kernel) rfl (.inr ⟨2, rfl, rfl, rfl⟩) : e_Sn 76 84 (o_store e_okI 2 85)) t_76_85
noncomputable def n_76_83 : e_Y := u_push (.inl 2147483648) n_76_84
theorem t_76_83 : e_Sn 76 83 (e_un n_76_83) := u_pushT (s_iconst (n := (0)) hq_76 (by decide +kernel) rfl ⟨by decide +kernel, by decide +kernel⟩ : e_Sn 76 83 (o_push (.inl 2147483648) 84)) t_76_84
noncomputable def n_76_80 : e_Y := u_putf 14 2 f_okA (u_old (o_putf (e_f1 14 2) e_okR 83) n_76_83) n_76_83
theorem t_76_80 : e_Sn 76 80 (e_un n_76_80) := u_putfT (fun _ => f_okA_eq) (s_putf (ty0 := ey_14) (ok := e_okR) (C := er_14) (T := et_14) (N := 13) (ref := "PlateroomprinterModel$Machine") (index := 27) (ci := 14) (k := 2) hq_76 ho_76 ⟨rfl, by decide, ei_14, r_m_8_79, .inl rfl⟩ eo_14 en_14 e_oksR (.inl rfl) (by decide +kernel) rfl : e_Sn 76 80 (o_putf (e_f1 14 2) e_okR 83)) t_76_83
noncomputable def n_76_77 : e_Y := u_callV 17 100 3 22 1 n_100_0 n_76_80
theorem t_76_77 : e_Sn 76 77 (e_un n_76_77) := u_callVT rfl (s_callV (ci := 17) (C := er_17) (T := et_17) (N := 6) (index := 61) hq_76 ho_76 hy_100 hp_100 hc_100 hi_100 hd_100 (r_k8 (List.mem_of_getElem? (i := 236) (by decide +kernel))) hs_100 (r_k8 (List.mem_of_getElem? (i := 238) (by decide +kernel))) rfl (by decide +kernel) rfl : e_Sn 76 77 (o_callV (e_s1 17 100 3) 1 80)) t_100_0 t_76_80
noncomputable def n_76_74 : e_Y := u_getf 14 2 (u_old (o_getf (e_f1 14 2) 77) n_76_77) n_76_77
theorem t_76_74 : e_Sn 76 74 (e_un n_76_74) := u_getfT (s_getf (C := er_14) (T := et_14) (N := 13) (ref := "PlateroomprinterModel$Machine") (index := 27) (ci := 14) (k := 2) hq_76 ho_76 ⟨rfl, by decide, ei_14, r_m_8_79, .inl rfl⟩ (by decide +kernel) rfl : e_Sn 76 74 (o_getf (e_f1 14 2) 77)) t_76_77
noncomputable def n_76_73 : e_Y := u_ld f_okA f_l0 n_76_74
theorem t_76_73 : e_Sn 76 73 (e_un n_76_73) := u_ldAT f_l0_eq (s_aload (i := .aload_n 0) (len := 1) hq_76 (by decide +kernel) rfl (.inr ⟨0, rfl, rfl, rfl⟩) : e_Sn 76 73 (o_load e_okR 0 74)) t_76_74
noncomputable def n_76_72 : e_Y := u_ld f_okA f_l1 n_76_73
theorem t_76_72 : e_Sn 76 72 (e_un n_76_72) := u_ldAT f_l1_eq (s_aload (i := .aload_n 1) (len := 1) hq_76 (by decide +kernel) rfl (.inr ⟨1, rfl, rfl, rfl⟩) : e_Sn 76 72 (o_load e_okR 1 73)) t_76_73
noncomputable def n_76_69 : e_Y := (u_at 48)
theorem t_76_69 : e_Sn 76 69 (e_un n_76_69) := u_gotoT (s_goto (off := (-21)) hq_76 (by decide +kernel) rfl : e_Sn 76 69 (o_goto 48)) u_atT
noncomputable def n_76_66 : e_Y := u_inc f_l2 f_s2 1 n_76_69
theorem t_76_66 : e_Sn 76 66 (e_un n_76_66) := u_incT f_l2_eq (fun _ _ _ => f_s2_eq) (s_iinc (zz := (1)) hq_76 (by decide +kernel) rfl (by decide +kernel) ⟨by decide, by decide⟩ : e_Sn 76 66 (o_iinc 2 1 69)) t_76_69
noncomputable def n_76_65 : e_Y := u_old (o_astR 6 (fun _ => false) 66) n_76_66
theorem t_76_65 : e_Sn 76 65 (e_un n_76_65) := u_oldT (s_aast (tc := 3) (E := "PlateroomprinterModel$Item") hq_76 rfl (by decide) (fun k hk => by cases hk) (by decide +kernel) rfl : e_Sn 76 65 (o_astR 6 (fun _ => false) 66)) t_76_66 (e_cg_astR 6 (fun _ => false))
noncomputable def n_76_64 : e_Y := u_ald 6 (u_old (o_aldO 6 65) n_76_65) n_76_65
theorem t_76_64 : e_Sn 76 64 (e_un n_76_64) := u_aldOT (s_aald (tc := 3) rfl hq_76 (by decide +kernel) rfl : e_Sn 76 64 (o_aldO 6 65)) t_76_65
noncomputable def n_76_63 : e_Y := u_ld f_okI f_l2 n_76_64
theorem t_76_63 : e_Sn 76 63 (e_un n_76_63) := u_ldIT f_l2_eq (s_iload (i := .iload_n 2) (len := 1) hq_76 (by decide +kernel) rfl (.inr ⟨2, rfl, rfl, rfl⟩) : e_Sn 76 63 (o_load e_okI 2 64)) t_76_64
noncomputable def n_76_60 : e_Y := u_getf 14 1 (u_old (o_getf (e_f1 14 1) 63) n_76_63) n_76_63
theorem t_76_60 : e_Sn 76 60 (e_un n_76_60) := u_getfT (s_getf (C := er_14) (T := et_14) (N := 13) (ref := "PlateroomprinterModel$Machine") (index := 20) (ci := 14) (k := 1) hq_76 ho_76 ⟨rfl, by decide, ei_14, r_m_8_76, .inl rfl⟩ (by decide +kernel) rfl : e_Sn 76 60 (o_getf (e_f1 14 1) 63)) t_76_63
noncomputable def n_76_59 : e_Y := u_ld f_okA f_l0 n_76_60
theorem t_76_59 : e_Sn 76 59 (e_un n_76_59) := u_ldAT f_l0_eq (s_aload (i := .aload_n 0) (len := 1) hq_76 (by decide +kernel) rfl (.inr ⟨0, rfl, rfl, rfl⟩) : e_Sn 76 59 (o_load e_okR 0 60)) t_76_60
noncomputable def n_76_58 : e_Y := u_ld f_okI f_l2 n_76_59
theorem t_76_58 : e_Sn 76 58 (e_un n_76_58) := u_ldIT f_l2_eq (s_iload (i := .iload_n 2) (len := 1) hq_76 (by decide +kernel) rfl (.inr ⟨2, rfl, rfl, rfl⟩) : e_Sn 76 58 (o_load e_okI 2 59)) t_76_59
noncomputable def n_76_55 : e_Y := u_getf 14 1 (u_old (o_getf (e_f1 14 1) 58) n_76_58) n_76_58
theorem t_76_55 : e_Sn 76 55 (e_un n_76_55) := u_getfT (s_getf (C := er_14) (T := et_14) (N := 13) (ref := "PlateroomprinterModel$Machine") (index := 20) (ci := 14) (k := 1) hq_76 ho_76 ⟨rfl, by decide, ei_14, r_m_8_76, .inl rfl⟩ (by decide +kernel) rfl : e_Sn 76 55 (o_getf (e_f1 14 1) 58)) t_76_58
noncomputable def n_76_54 : e_Y := u_ld f_okA f_l1 n_76_55
theorem t_76_54 : e_Sn 76 54 (e_un n_76_54) := u_ldAT f_l1_eq (s_aload (i := .aload_n 1) (len := 1) hq_76 (by decide +kernel) rfl (.inr ⟨1, rfl, rfl, rfl⟩) : e_Sn 76 54 (o_load e_okR 1 55)) t_76_55
noncomputable def n_76_51 : e_Y := u_jmp y_ge (u_old2 (o_clt 54 72) 54 n_76_54 n_76_72) n_76_54 n_76_72
theorem t_76_51 : e_Sn 76 51 (e_un n_76_51) := u_cltT rfl (s_cge (off := (21)) hq_76 (by decide +kernel) rfl rfl : e_Sn 76 51 (o_clt 54 72)) t_76_54 t_76_72
noncomputable def n_76_49 : e_Y := u_push (.inl 2147483658) n_76_51
theorem t_76_49 : e_Sn 76 49 (e_un n_76_49) := u_pushT (s_bipush (n := (10)) hq_76 (by decide +kernel) rfl ⟨by decide +kernel, by decide +kernel⟩ : e_Sn 76 49 (o_push (.inl 2147483658) 51)) t_76_51
noncomputable def n_76_48 : e_Y := u_ld f_okI f_l2 n_76_49
theorem t_76_48 : e_Sn 76 48 (e_un n_76_48) := u_ldIT f_l2_eq (s_iload (i := .iload_n 2) (len := 1) hq_76 (by decide +kernel) rfl (.inr ⟨2, rfl, rfl, rfl⟩) : e_Sn 76 48 (o_load e_okI 2 49)) t_76_49
noncomputable def n_76_47 : e_Y := u_st f_okI f_s2 n_76_48
theorem t_76_47 : e_Sn 76 47 (e_un n_76_47) := u_stIT (fun _ _ _ => f_s2_eq) (s_istore (i := .istore_n 2) (len := 1) hq_76 (by decide +kernel) rfl (.inr ⟨2, rfl, rfl, rfl⟩) : e_Sn 76 47 (o_store e_okI 2 48)) t_76_48
noncomputable def n_76_46 : e_Y := u_push (.inl 2147483648) n_76_47
theorem t_76_46 : e_Sn 76 46 (e_un n_76_46) := u_pushT (s_iconst (n := (0)) hq_76 (by decide +kernel) rfl ⟨by decide +kernel, by decide +kernel⟩ : e_Sn 76 46 (o_push (.inl 2147483648) 47)) t_76_47
noncomputable def n_76_18 : e_Y := u_jmp y_ge (u_old2 (o_clt 21 46) 21 (u_at 21) n_76_46) (u_at 21) n_76_46
theorem t_76_18 : e_Sn 76 18 (e_un n_76_18) := u_cltT rfl (s_cge (off := (28)) hq_76 (by decide +kernel) rfl rfl : e_Sn 76 18 (o_clt 21 46)) u_atT t_76_46
noncomputable def n_76_15 : e_Y := u_callV 19 116 1 20 1 n_116_0 n_76_18
theorem t_76_15 : e_Sn 76 15 (e_un n_76_15) := u_callVT rfl (s_callV (ci := 19) (C := er_19) (T := et_19) (N := 3) (index := 53) hq_76 ho_76 hy_116 hp_116 hc_116 hi_116 hd_116 r_m_8_227 hs_116 r_m_8_181 rfl (by decide +kernel) rfl : e_Sn 76 15 (o_callV (e_s1 19 116 1) 1 18)) t_116_0 t_76_18
noncomputable def n_76_12 : e_Y := u_getf 14 0 (u_old (o_getf (e_f1 14 0) 15) n_76_15) n_76_15
theorem t_76_12 : e_Sn 76 12 (e_un n_76_12) := u_getfT (s_getf (C := er_14) (T := et_14) (N := 13) (ref := "PlateroomprinterModel$Machine") (index := 12) (ci := 14) (k := 0) hq_76 ho_76 ⟨rfl, by decide, ei_14, r_m_8_73, .inl rfl⟩ (by decide +kernel) rfl : e_Sn 76 12 (o_getf (e_f1 14 0) 15)) t_76_15
noncomputable def n_76_11 : e_Y := u_ld f_okA f_l0 n_76_12
theorem t_76_11 : e_Sn 76 11 (e_un n_76_11) := u_ldAT f_l0_eq (s_aload (i := .aload_n 0) (len := 1) hq_76 (by decide +kernel) rfl (.inr ⟨0, rfl, rfl, rfl⟩) : e_Sn 76 11 (o_load e_okR 0 12)) t_76_12
noncomputable def n_76_10 : e_Y := u_ld f_okI f_l2 n_76_11
theorem t_76_10 : e_Sn 76 10 (e_un n_76_10) := u_ldIT f_l2_eq (s_iload (i := .iload_n 2) (len := 1) hq_76 (by decide +kernel) rfl (.inr ⟨2, rfl, rfl, rfl⟩) : e_Sn 76 10 (o_load e_okI 2 11)) t_76_11
noncomputable def n_76_9 : e_Y := u_st f_okI f_s2 n_76_10
theorem t_76_9 : e_Sn 76 9 (e_un n_76_9) := u_stIT (fun _ _ _ => f_s2_eq) (s_istore (i := .istore_n 2) (len := 1) hq_76 (by decide +kernel) rfl (.inr ⟨2, rfl, rfl, rfl⟩) : e_Sn 76 9 (o_store e_okI 2 10)) t_76_10
noncomputable def n_76_8 : e_Y := u_push (.inl 2147483648) n_76_9
theorem t_76_8 : e_Sn 76 8 (e_un n_76_8) := u_pushT (s_iconst (n := (0)) hq_76 (by decide +kernel) rfl ⟨by decide +kernel, by decide +kernel⟩ : e_Sn 76 8 (o_push (.inl 2147483648) 9)) t_76_9
noncomputable def n_76_7 : e_Y := u_st f_okA f_s1 n_76_8
theorem t_76_7 : e_Sn 76 7 (e_un n_76_7) := u_stAT (fun _ _ _ => f_s1_eq) (s_astore (i := .astore_n 1) (len := 1) hq_76 (by decide +kernel) rfl (.inr ⟨1, rfl, rfl, rfl⟩) : e_Sn 76 7 (o_store e_okR 1 8)) t_76_8
noncomputable def n_76_4 : e_Y := u_callI 75 2 21 1 n_75_0 n_76_7
theorem t_76_4 : e_Sn 76 4 (e_un n_76_4) := u_callIT rfl (s_callI (index := 52) hq_76 ho_76 hy_75 hp_75 hc_75 hi_75 hd_75 (r_k8 (List.mem_of_getElem? (i := 226) (by decide +kernel))) rfl rfl hs_75 (by decide +kernel) rfl : e_Sn 76 4 (o_callI 75 2 1 7)) t_75_0 t_76_7
noncomputable def n_76_3 : e_Y := u_old (o_dup 4) n_76_4
theorem t_76_3 : e_Sn 76 3 (e_un n_76_3) := u_oldT (s_dup hq_76 (by decide +kernel) rfl : e_Sn 76 3 (o_dup 4)) t_76_4 e_cg_dup
noncomputable def n_76_0 : e_Y := u_tab (o_new 14 13 ef_14 3)
theorem t_76_0 : e_Sn 76 0 (e_un n_76_0) := u_tabT (s_new (index := 13) (ci := 14) (N := 13) (C := er_14) (T := et_14) (ty0 := ey_14) (fv := eg_14) hq_76 ho_76 rfl ei_14 eo_14 (r_k8 (List.mem_of_getElem? (i := 225) (by decide +kernel))) r_m_7_168 r_m_1_15 eh_14 rfl (e_newrel ek_14) (by decide +kernel) rfl : e_Sn 76 0 (o_new 14 13 ef_14 3))
noncomputable def e_tb_76 : e_X := (e_br 48 (e_br 3 (e_lf 0 (e_un n_76_0)) (e_lf 3 (e_un n_76_3))) (e_br 126 (e_lf 48 (e_un n_76_48)) (e_lf 126 (e_un n_76_126))))
theorem e_tk_76 : e_Tb 76 e_tb_76 := (e_brT (e_brT (e_lfT t_76_0) (e_lfT t_76_3)) (e_brT (e_lfT t_76_48) (e_lfT t_76_126)))
theorem hq_77 : (e_ml[77]?).map (·.2.1) = some prog_19_method_1_code := Eq.trans (congrArg (Option.map (fun e => e.2.1)) hy_77) rfl
theorem ho_77 : (e_ml[77]?).map (·.1.cls) = some "PlateroomprinterModel$Row" := Eq.trans (congrArg (Option.map (fun e => e.1.cls)) hy_77) rfl
theorem hr_77 : (e_ml[77]?).map (·.2.2.2) = some none := Eq.trans (congrArg (Option.map (fun e => e.2.2.2)) hy_77) rfl
noncomputable def n_77_9 : e_Y := u_retV
theorem t_77_9 : e_Sn 77 9 (e_un n_77_9) := u_retVT (s_vret hq_77 hr_77 (by decide +kernel) : e_Sn 77 9 (o_retv))
noncomputable def n_77_6 : e_Y := u_putf 15 0 f_okA (u_old (o_putf (e_f1 15 0) e_okR 9) n_77_9) n_77_9
theorem t_77_6 : e_Sn 77 6 (e_un n_77_6) := u_putfT (fun _ => f_okA_eq) (s_putf (ty0 := ey_15) (ok := e_okR) (C := er_15) (T := et_15) (N := 8) (ref := "PlateroomprinterModel$Row") (index := 7) (ci := 15) (k := 0) hq_77 ho_77 ⟨rfl, by decide, ei_15, r_m_9_61, .inl rfl⟩ eo_15 en_15 e_oksR (.inr ⟨rfl, rfl, rfl⟩) (by decide +kernel) rfl : e_Sn 77 6 (o_putf (e_f1 15 0) e_okR 9)) t_77_9
noncomputable def n_77_5 : e_Y := u_ld f_okA f_l1 n_77_6
theorem t_77_5 : e_Sn 77 5 (e_un n_77_5) := u_ldAT f_l1_eq (s_aload (i := .aload_n 1) (len := 1) hq_77 (by decide +kernel) rfl (.inr ⟨1, rfl, rfl, rfl⟩) : e_Sn 77 5 (o_load e_okR 1 6)) t_77_6
noncomputable def n_77_4 : e_Y := u_ld f_okA f_l0 n_77_5
theorem t_77_4 : e_Sn 77 4 (e_un n_77_4) := u_ldAT f_l0_eq (s_aload (i := .aload_n 0) (len := 1) hq_77 (by decide +kernel) rfl (.inr ⟨0, rfl, rfl, rfl⟩) : e_Sn 77 4 (o_load e_okR 0 5)) t_77_5
noncomputable def n_77_1 : e_Y := u_tab (o_oinit 4)
theorem t_77_1 : e_Sn 77 1 (e_un n_77_1) := u_tabT (s_oinit (idx := 1) hq_77 ho_77 (r_k9 (List.mem_of_getElem? (i := 60) (by decide +kernel))) r_m_1_53 r_m_1_54 (by decide +kernel) rfl : e_Sn 77 1 (o_oinit 4))
noncomputable def n_77_0 : e_Y := u_ld f_okA f_l0 n_77_1
theorem t_77_0 : e_Sn 77 0 (e_un n_77_0) := u_ldAT f_l0_eq (s_aload (i := .aload_n 0) (len := 1) hq_77 (by decide +kernel) rfl (.inr ⟨0, rfl, rfl, rfl⟩) : e_Sn 77 0 (o_load e_okR 0 1)) t_77_1
noncomputable def e_tb_77 : e_X := (e_br 4 (e_lf 0 (e_un n_77_0)) (e_lf 4 (e_un n_77_4)))
theorem e_tk_77 : e_Tb 77 e_tb_77 := (e_brT (e_lfT t_77_0) (e_lfT t_77_4))
theorem hq_79 : (e_ml[79]?).map (·.2.1) = some prog_20_method_1_code := Eq.trans (congrArg (Option.map (fun e => e.2.1)) hy_79) rfl
theorem ho_79 : (e_ml[79]?).map (·.1.cls) = some "PlateroomprinterModel$Run" := Eq.trans (congrArg (Option.map (fun e => e.1.cls)) hy_79) rfl
theorem hr_79 : (e_ml[79]?).map (·.2.2.2) = some none := Eq.trans (congrArg (Option.map (fun e => e.2.2.2)) hy_79) rfl
noncomputable def n_79_46 : e_Y := u_retV
theorem t_79_46 : e_Sn 79 46 (e_un n_79_46) := u_retVT (s_vret hq_79 hr_79 (by decide +kernel) : e_Sn 79 46 (o_retv))
noncomputable def n_79_45 : e_Y := u_pop n_79_46
theorem t_79_45 : e_Sn 79 45 (e_un n_79_45) := u_popT (s_pop hq_79 (by decide +kernel) rfl : e_Sn 79 45 (o_pop 46)) t_79_46
noncomputable def n_79_42 : e_Y := u_callV 19 106 2 21 2 n_106_0 n_79_45
theorem t_79_42 : e_Sn 79 42 (e_un n_79_42) := u_callVT rfl (s_callV (ci := 19) (C := er_19) (T := et_19) (N := 3) (index := 34) hq_79 ho_79 hy_106 hp_106 hc_106 hi_106 hd_106 r_m_9_88 hs_106 r_m_8_5 rfl (by decide +kernel) rfl : e_Sn 79 42 (o_callV (e_s1 19 106 2) 2 45)) t_106_0 t_79_45
noncomputable def n_79_39 : e_Y := u_callI 77 2 21 2 n_77_0 n_79_42
theorem t_79_39 : e_Sn 79 39 (e_un n_79_39) := u_callIT rfl (s_callI (index := 31) hq_79 ho_79 hy_77 hp_77 hc_77 hi_77 hd_77 r_m_9_57 rfl rfl hs_77 (by decide +kernel) rfl : e_Sn 79 39 (o_callI 77 2 2 42)) t_77_0 t_79_42
noncomputable def n_79_38 : e_Y := u_ld f_okA f_l2 n_79_39
theorem t_79_38 : e_Sn 79 38 (e_un n_79_38) := u_ldAT f_l2_eq (s_aload (i := .aload_n 2) (len := 1) hq_79 (by decide +kernel) rfl (.inr ⟨2, rfl, rfl, rfl⟩) : e_Sn 79 38 (o_load e_okR 2 39)) t_79_39
noncomputable def n_79_37 : e_Y := u_old (o_dup 38) n_79_38
theorem t_79_37 : e_Sn 79 37 (e_un n_79_37) := u_oldT (s_dup hq_79 (by decide +kernel) rfl : e_Sn 79 37 (o_dup 38)) t_79_38 e_cg_dup
noncomputable def n_79_34 : e_Y := u_tab (o_new 15 8 ef_15 37)
theorem t_79_34 : e_Sn 79 34 (e_un n_79_34) := u_tabT (s_new (index := 29) (ci := 15) (N := 8) (C := er_15) (T := et_15) (ty0 := ey_15) (fv := eg_15) hq_79 ho_79 rfl ei_15 eo_15 r_m_9_55 r_m_9_56 r_m_1_34 eh_15 rfl (e_newrel ek_15) (by decide +kernel) rfl : e_Sn 79 34 (o_new 15 8 ef_15 37))
noncomputable def n_79_31 : e_Y := u_getf 16 1 (u_old (o_getf (e_f1 16 1) 34) n_79_34) n_79_34
theorem t_79_31 : e_Sn 79 31 (e_un n_79_31) := u_getfT (s_getf (C := er_16) (T := et_16) (N := 5) (ref := "PlateroomprinterModel$Run") (index := 12) (ci := 16) (k := 1) hq_79 ho_79 ⟨rfl, by decide, ei_16, r_m_9_90, .inl rfl⟩ (by decide +kernel) rfl : e_Sn 79 31 (o_getf (e_f1 16 1) 34)) t_79_34
noncomputable def n_79_30 : e_Y := u_ld f_okA f_l0 n_79_31
theorem t_79_30 : e_Sn 79 30 (e_un n_79_30) := u_ldAT f_l0_eq (s_aload (i := .aload_n 0) (len := 1) hq_79 (by decide +kernel) rfl (.inr ⟨0, rfl, rfl, rfl⟩) : e_Sn 79 30 (o_load e_okR 0 31)) t_79_31
noncomputable def n_79_27 : e_Y := u_putf 16 0 f_okA (u_old (o_putf (e_f1 16 0) e_okR 30) n_79_30) n_79_30
theorem t_79_27 : e_Sn 79 27 (e_un n_79_27) := u_putfT (fun _ => f_okA_eq) (s_putf (ty0 := ey_16) (ok := e_okR) (C := er_16) (T := et_16) (N := 5) (ref := "PlateroomprinterModel$Run") (index := 25) (ci := 16) (k := 0) hq_79 ho_79 ⟨rfl, by decide, ei_16, r_m_9_89, .inl rfl⟩ eo_16 en_16 e_oksR (.inr ⟨rfl, rfl, rfl⟩) (by decide +kernel) rfl : e_Sn 79 27 (o_putf (e_f1 16 0) e_okR 30)) t_79_30
noncomputable def n_79_26 : e_Y := u_ld f_okA f_l1 n_79_27
theorem t_79_26 : e_Sn 79 26 (e_un n_79_26) := u_ldAT f_l1_eq (s_aload (i := .aload_n 1) (len := 1) hq_79 (by decide +kernel) rfl (.inr ⟨1, rfl, rfl, rfl⟩) : e_Sn 79 26 (o_load e_okR 1 27)) t_79_27
noncomputable def n_79_25 : e_Y := u_ld f_okA f_l0 n_79_26
theorem t_79_25 : e_Sn 79 25 (e_un n_79_25) := u_ldAT f_l0_eq (s_aload (i := .aload_n 0) (len := 1) hq_79 (by decide +kernel) rfl (.inr ⟨0, rfl, rfl, rfl⟩) : e_Sn 79 25 (o_load e_okR 0 26)) t_79_26
noncomputable def n_79_22 : e_Y := u_putf 16 4 f_okI (u_old (o_putf (e_f1 16 4) e_okI 25) n_79_25) n_79_25
theorem t_79_22 : e_Sn 79 22 (e_un n_79_22) := u_putfT (fun _ => f_okI_eq) (s_putf (ty0 := ey_16) (ok := e_okI) (C := er_16) (T := et_16) (N := 5) (ref := "PlateroomprinterModel$Run") (index := 22) (ci := 16) (k := 4) hq_79 ho_79 ⟨rfl, by decide, ei_16, r_m_9_94, .inl rfl⟩ eo_16 en_16 e_oksI (.inl rfl) (by decide +kernel) rfl : e_Sn 79 22 (o_putf (e_f1 16 4) e_okI 25)) t_79_25
noncomputable def n_79_21 : e_Y := u_push (.inl 2147483647) n_79_22
theorem t_79_21 : e_Sn 79 21 (e_un n_79_21) := u_pushT (s_iconst (n := (-1)) hq_79 (by decide +kernel) rfl ⟨by decide +kernel, by decide +kernel⟩ : e_Sn 79 21 (o_push (.inl 2147483647) 22)) t_79_22
noncomputable def n_79_20 : e_Y := u_ld f_okA f_l0 n_79_21
theorem t_79_20 : e_Sn 79 20 (e_un n_79_20) := u_ldAT f_l0_eq (s_aload (i := .aload_n 0) (len := 1) hq_79 (by decide +kernel) rfl (.inr ⟨0, rfl, rfl, rfl⟩) : e_Sn 79 20 (o_load e_okR 0 21)) t_79_21
noncomputable def n_79_17 : e_Y := u_putf 16 3 f_okI (u_old (o_putf (e_f1 16 3) e_okI 20) n_79_20) n_79_20
theorem t_79_17 : e_Sn 79 17 (e_un n_79_17) := u_putfT (fun _ => f_okI_eq) (s_putf (ty0 := ey_16) (ok := e_okI) (C := er_16) (T := et_16) (N := 5) (ref := "PlateroomprinterModel$Run") (index := 18) (ci := 16) (k := 3) hq_79 ho_79 ⟨rfl, by decide, ei_16, r_m_9_92, .inl rfl⟩ eo_16 en_16 e_oksI (.inl rfl) (by decide +kernel) rfl : e_Sn 79 17 (o_putf (e_f1 16 3) e_okI 20)) t_79_20
noncomputable def n_79_16 : e_Y := u_push (.inl 2147483647) n_79_17
theorem t_79_16 : e_Sn 79 16 (e_un n_79_16) := u_pushT (s_iconst (n := (-1)) hq_79 (by decide +kernel) rfl ⟨by decide +kernel, by decide +kernel⟩ : e_Sn 79 16 (o_push (.inl 2147483647) 17)) t_79_17
noncomputable def n_79_15 : e_Y := u_ld f_okA f_l0 n_79_16
theorem t_79_15 : e_Sn 79 15 (e_un n_79_15) := u_ldAT f_l0_eq (s_aload (i := .aload_n 0) (len := 1) hq_79 (by decide +kernel) rfl (.inr ⟨0, rfl, rfl, rfl⟩) : e_Sn 79 15 (o_load e_okR 0 16)) t_79_16
noncomputable def n_79_12 : e_Y := u_putf 16 1 f_okA (u_old (o_putf (e_f1 16 1) e_okR 15) n_79_15) n_79_15
theorem t_79_12 : e_Sn 79 12 (e_un n_79_12) := u_putfT (fun _ => f_okA_eq) (s_putf (ty0 := ey_16) (ok := e_okR) (C := er_16) (T := et_16) (N := 5) (ref := "PlateroomprinterModel$Run") (index := 12) (ci := 16) (k := 1) hq_79 ho_79 ⟨rfl, by decide, ei_16, r_m_9_90, .inl rfl⟩ eo_16 en_16 e_oksR (.inr ⟨rfl, rfl, rfl⟩) (by decide +kernel) rfl : e_Sn 79 12 (o_putf (e_f1 16 1) e_okR 15)) t_79_15
noncomputable def n_79_9 : e_Y := u_callI 105 1 20 1 n_105_0 n_79_12
theorem t_79_9 : e_Sn 79 9 (e_un n_79_9) := u_callIT rfl (s_callI (index := 11) hq_79 ho_79 hy_105 hp_105 hc_105 hi_105 hd_105 r_m_9_54 rfl rfl hs_105 (by decide +kernel) rfl : e_Sn 79 9 (o_callI 105 1 1 12)) t_105_0 t_79_12
noncomputable def n_79_8 : e_Y := u_old (o_dup 9) n_79_9
theorem t_79_8 : e_Sn 79 8 (e_un n_79_8) := u_oldT (s_dup hq_79 (by decide +kernel) rfl : e_Sn 79 8 (o_dup 9)) t_79_9 e_cg_dup
noncomputable def n_79_5 : e_Y := u_tab (o_new 19 3 ef_19 8)
theorem t_79_5 : e_Sn 79 5 (e_un n_79_5) := u_tabT (s_new (index := 9) (ci := 19) (N := 3) (C := er_19) (T := et_19) (ty0 := ey_19) (fv := eg_19) hq_79 ho_79 rfl ei_19 eo_19 r_m_9_53 r_m_7_174 r_m_1_18 eh_19 rfl (e_newrel ek_19) (by decide +kernel) rfl : e_Sn 79 5 (o_new 19 3 ef_19 8))
noncomputable def n_79_4 : e_Y := u_ld f_okA f_l0 n_79_5
theorem t_79_4 : e_Sn 79 4 (e_un n_79_4) := u_ldAT f_l0_eq (s_aload (i := .aload_n 0) (len := 1) hq_79 (by decide +kernel) rfl (.inr ⟨0, rfl, rfl, rfl⟩) : e_Sn 79 4 (o_load e_okR 0 5)) t_79_5
noncomputable def n_79_1 : e_Y := u_tab (o_oinit 4)
theorem t_79_1 : e_Sn 79 1 (e_un n_79_1) := u_tabT (s_oinit (idx := 3) hq_79 ho_79 (r_k9 (List.mem_of_getElem? (i := 52) (by decide +kernel))) r_m_1_53 r_m_1_54 (by decide +kernel) rfl : e_Sn 79 1 (o_oinit 4))
noncomputable def n_79_0 : e_Y := u_ld f_okA f_l0 n_79_1
theorem t_79_0 : e_Sn 79 0 (e_un n_79_0) := u_ldAT f_l0_eq (s_aload (i := .aload_n 0) (len := 1) hq_79 (by decide +kernel) rfl (.inr ⟨0, rfl, rfl, rfl⟩) : e_Sn 79 0 (o_load e_okR 0 1)) t_79_1
noncomputable def e_tb_79 : e_X := (e_br 8 (e_br 4 (e_lf 0 (e_un n_79_0)) (e_lf 4 (e_un n_79_4))) (e_br 37 (e_lf 8 (e_un n_79_8)) (e_lf 37 (e_un n_79_37))))
theorem e_tk_79 : e_Tb 79 e_tb_79 := (e_brT (e_brT (e_lfT t_79_0) (e_lfT t_79_4)) (e_brT (e_lfT t_79_8) (e_lfT t_79_37)))
theorem hq_78 : (e_ml[78]?).map (·.2.1) = some prog_19_method_2_code := Eq.trans (congrArg (Option.map (fun e => e.2.1)) hy_78) rfl
theorem ho_78 : (e_ml[78]?).map (·.1.cls) = some "PlateroomprinterModel$Row" := Eq.trans (congrArg (Option.map (fun e => e.1.cls)) hy_78) rfl
theorem hr_78 : (e_ml[78]?).map (·.2.2.2) = some (some .boolean) := Eq.trans (congrArg (Option.map (fun e => e.2.2.2)) hy_78) rfl
noncomputable def n_78_19 : e_Y := u_tab (o_ret e_okZ)
theorem t_78_19 : e_Sn 78 19 (e_un n_78_19) := u_tabT (s_zret hq_78 hr_78 (by decide +kernel) : e_Sn 78 19 (o_ret e_okZ))
noncomputable def n_78_18 : e_Y := u_push (.inl 2147483648) n_78_19
theorem t_78_18 : e_Sn 78 18 (e_un n_78_18) := u_pushT (s_iconst (n := (0)) hq_78 (by decide +kernel) rfl ⟨by decide +kernel, by decide +kernel⟩ : e_Sn 78 18 (o_push (.inl 2147483648) 19)) t_78_19
noncomputable def n_78_15 : e_Y := n_78_19
theorem t_78_15 : e_Sn 78 15 (e_un n_78_15) := u_gotoT (s_goto (off := (4)) hq_78 (by decide +kernel) rfl : e_Sn 78 15 (o_goto 19)) t_78_19
noncomputable def n_78_14 : e_Y := u_push (.inl 2147483649) n_78_15
theorem t_78_14 : e_Sn 78 14 (e_un n_78_14) := u_pushT (s_iconst (n := (1)) hq_78 (by decide +kernel) rfl ⟨by decide +kernel, by decide +kernel⟩ : e_Sn 78 14 (o_push (.inl 2147483649) 15)) t_78_15
noncomputable def n_78_11 : e_Y := u_jmp y_ne (u_old2 (o_ceq 14 18) 14 n_78_14 n_78_18) n_78_14 n_78_18
theorem t_78_11 : e_Sn 78 11 (e_un n_78_11) := u_ceqT rfl (s_cne (off := (7)) hq_78 (by decide +kernel) rfl rfl : e_Sn 78 11 (o_ceq 14 18)) t_78_14 t_78_18
noncomputable def n_78_8 : e_Y := u_callV 19 116 1 20 1 n_116_0 n_78_11
theorem t_78_8 : e_Sn 78 8 (e_un n_78_8) := u_callVT rfl (s_callV (ci := 19) (C := er_19) (T := et_19) (N := 3) (index := 17) hq_78 ho_78 hy_116 hp_116 hc_116 hi_116 hd_116 (r_k9 (List.mem_of_getElem? (i := 126) (by decide +kernel))) hs_116 r_m_8_181 rfl (by decide +kernel) rfl : e_Sn 78 8 (o_callV (e_s1 19 116 1) 1 11)) t_116_0 t_78_11
noncomputable def n_78_5 : e_Y := u_getf 15 0 (u_old (o_getf (e_f1 15 0) 8) n_78_8) n_78_8
theorem t_78_5 : e_Sn 78 5 (e_un n_78_5) := u_getfT (s_getf (C := er_15) (T := et_15) (N := 8) (ref := "PlateroomprinterModel$Row") (index := 7) (ci := 15) (k := 0) hq_78 ho_78 ⟨rfl, by decide, ei_15, r_m_9_61, .inl rfl⟩ (by decide +kernel) rfl : e_Sn 78 5 (o_getf (e_f1 15 0) 8)) t_78_8
noncomputable def n_78_4 : e_Y := u_ld f_okA f_l0 n_78_5
theorem t_78_4 : e_Sn 78 4 (e_un n_78_4) := u_ldAT f_l0_eq (s_aload (i := .aload_n 0) (len := 1) hq_78 (by decide +kernel) rfl (.inr ⟨0, rfl, rfl, rfl⟩) : e_Sn 78 4 (o_load e_okR 0 5)) t_78_5
noncomputable def n_78_1 : e_Y := u_getf 15 1 (u_old (o_getf (e_f1 15 1) 4) n_78_4) n_78_4
theorem t_78_1 : e_Sn 78 1 (e_un n_78_1) := u_getfT (s_getf (C := er_15) (T := et_15) (N := 8) (ref := "PlateroomprinterModel$Row") (index := 13) (ci := 15) (k := 1) hq_78 ho_78 ⟨rfl, by decide, ei_15, (r_k9 (List.mem_of_getElem? (i := 63) (by decide +kernel))), .inl rfl⟩ (by decide +kernel) rfl : e_Sn 78 1 (o_getf (e_f1 15 1) 4)) t_78_4
noncomputable def n_78_0 : e_Y := u_ld f_okA f_l0 n_78_1
theorem t_78_0 : e_Sn 78 0 (e_un n_78_0) := u_ldAT f_l0_eq (s_aload (i := .aload_n 0) (len := 1) hq_78 (by decide +kernel) rfl (.inr ⟨0, rfl, rfl, rfl⟩) : e_Sn 78 0 (o_load e_okR 0 1)) t_78_1
noncomputable def e_tb_78 : e_X := (e_lf 0 (e_un n_78_0))
theorem e_tk_78 : e_Tb 78 e_tb_78 := (e_lfT t_78_0)
theorem hq_95 : (e_ml[95]?).map (·.2.1) = some prog_20_method_6_code := Eq.trans (congrArg (Option.map (fun e => e.2.1)) hy_95) rfl
theorem ho_95 : (e_ml[95]?).map (·.1.cls) = some "PlateroomprinterModel$Run" := Eq.trans (congrArg (Option.map (fun e => e.1.cls)) hy_95) rfl
theorem hr_95 : (e_ml[95]?).map (·.2.2.2) = some none := Eq.trans (congrArg (Option.map (fun e => e.2.2.2)) hy_95) rfl
noncomputable def n_95_53 : e_Y := u_retV
theorem t_95_53 : e_Sn 95 53 (e_un n_95_53) := u_retVT (s_vret hq_95 hr_95 (by decide +kernel) : e_Sn 95 53 (o_retv))
noncomputable def n_95_50 : e_Y := u_old (o_putf (e_f1 15 5) e_okL 53) n_95_53
theorem t_95_50 : e_Sn 95 50 (e_un n_95_50) := u_oldT (s_putf (ty0 := ey_15) (ok := e_okL) (C := er_15) (T := et_15) (N := 8) (ref := "PlateroomprinterModel$Row") (index := 105) (ci := 15) (k := 5) hq_95 ho_95 ⟨rfl, by decide, ei_15, r_m_9_68, .inl rfl⟩ eo_15 en_15 e_oksL (.inl rfl) (by decide +kernel) rfl : e_Sn 95 50 (o_putf (e_f1 15 5) e_okL 53)) t_95_53 (e_cg_putf (e_f1 15 5) e_okL)
noncomputable def n_95_49 : e_Y := u_old (o_ladd 50) n_95_50
theorem t_95_49 : e_Sn 95 49 (e_un n_95_49) := u_oldT (s_ladd hq_95 (by decide +kernel) rfl : e_Sn 95 49 (o_ladd 50)) t_95_50 e_cg_ladd
noncomputable def n_95_46 : e_Y := u_getf 15 6 (u_old (o_getf (e_f1 15 6) 49) n_95_49) n_95_49
theorem t_95_46 : e_Sn 95 46 (e_un n_95_46) := u_getfT (s_getf (C := er_15) (T := et_15) (N := 8) (ref := "PlateroomprinterModel$Row") (index := 101) (ci := 15) (k := 6) hq_95 ho_95 ⟨rfl, by decide, ei_15, (r_k9 (List.mem_of_getElem? (i := 69) (by decide +kernel))), .inl rfl⟩ (by decide +kernel) rfl : e_Sn 95 46 (o_getf (e_f1 15 6) 49)) t_95_49
noncomputable def n_95_45 : e_Y := u_ld f_okA f_l1 n_95_46
theorem t_95_45 : e_Sn 95 45 (e_un n_95_45) := u_ldAT f_l1_eq (s_aload (i := .aload_n 1) (len := 1) hq_95 (by decide +kernel) rfl (.inr ⟨1, rfl, rfl, rfl⟩) : e_Sn 95 45 (o_load e_okR 1 46)) t_95_46
noncomputable def n_95_42 : e_Y := u_getf 15 5 (u_old (o_getf (e_f1 15 5) 45) n_95_45) n_95_45
theorem t_95_42 : e_Sn 95 42 (e_un n_95_42) := u_getfT (s_getf (C := er_15) (T := et_15) (N := 8) (ref := "PlateroomprinterModel$Row") (index := 105) (ci := 15) (k := 5) hq_95 ho_95 ⟨rfl, by decide, ei_15, r_m_9_68, .inl rfl⟩ (by decide +kernel) rfl : e_Sn 95 42 (o_getf (e_f1 15 5) 45)) t_95_45
noncomputable def n_95_41 : e_Y := u_old (o_dup 42) n_95_42
theorem t_95_41 : e_Sn 95 41 (e_un n_95_41) := u_oldT (s_dup hq_95 (by decide +kernel) rfl : e_Sn 95 41 (o_dup 42)) t_95_42 e_cg_dup
noncomputable def n_95_40 : e_Y := u_ld f_okA f_l1 n_95_41
theorem t_95_40 : e_Sn 95 40 (e_un n_95_40) := u_ldAT f_l1_eq (s_aload (i := .aload_n 1) (len := 1) hq_95 (by decide +kernel) rfl (.inr ⟨1, rfl, rfl, rfl⟩) : e_Sn 95 40 (o_load e_okR 1 41)) t_95_41
noncomputable def n_95_29 : e_Y := u_if y_ne0 (u_old2 (o_ifeq 40 32) 40 n_95_40 (u_at 32)) n_95_40 (u_at 32)
theorem t_95_29 : e_Sn 95 29 (e_un n_95_29) := u_ifeqT rfl (s_ifeq (off := (11)) hq_95 (by decide +kernel) rfl rfl : e_Sn 95 29 (o_ifeq 40 32)) t_95_40 u_atT
noncomputable def n_95_26 : e_Y := u_getf 15 4 (u_old (o_getf (e_f1 15 4) 29) n_95_29) n_95_29
theorem t_95_26 : e_Sn 95 26 (e_un n_95_26) := u_getfT (s_getf (C := er_15) (T := et_15) (N := 8) (ref := "PlateroomprinterModel$Row") (index := 98) (ci := 15) (k := 4) hq_95 ho_95 ⟨rfl, by decide, ei_15, r_m_9_67, .inl rfl⟩ (by decide +kernel) rfl : e_Sn 95 26 (o_getf (e_f1 15 4) 29)) t_95_29
noncomputable def n_95_25 : e_Y := u_ld f_okA f_l1 n_95_26
theorem t_95_25 : e_Sn 95 25 (e_un n_95_25) := u_ldAT f_l1_eq (s_aload (i := .aload_n 1) (len := 1) hq_95 (by decide +kernel) rfl (.inr ⟨1, rfl, rfl, rfl⟩) : e_Sn 95 25 (o_load e_okR 1 26)) t_95_26
noncomputable def n_95_22 : e_Y := u_putf 15 3 f_okI (u_old (o_putf (e_f1 15 3) e_okI 25) n_95_25) n_95_25
theorem t_95_22 : e_Sn 95 22 (e_un n_95_22) := u_putfT (fun _ => f_okI_eq) (s_putf (ty0 := ey_15) (ok := e_okI) (C := er_15) (T := et_15) (N := 8) (ref := "PlateroomprinterModel$Row") (index := 111) (ci := 15) (k := 3) hq_95 ho_95 ⟨rfl, by decide, ei_15, r_m_9_66, .inl rfl⟩ eo_15 en_15 e_oksI (.inl rfl) (by decide +kernel) rfl : e_Sn 95 22 (o_putf (e_f1 15 3) e_okI 25)) t_95_25
noncomputable def n_95_21 : e_Y := u_bin a_isub (u_old (o_isub 22) n_95_22) n_95_22
theorem t_95_21 : e_Sn 95 21 (e_un n_95_21) := u_isubT (s_isub hq_95 (by decide +kernel) rfl : e_Sn 95 21 (o_isub 22)) t_95_22
noncomputable def n_95_20 : e_Y := u_push (.inl 2147483649) n_95_21
theorem t_95_20 : e_Sn 95 20 (e_un n_95_20) := u_pushT (s_iconst (n := (1)) hq_95 (by decide +kernel) rfl ⟨by decide +kernel, by decide +kernel⟩ : e_Sn 95 20 (o_push (.inl 2147483649) 21)) t_95_21
noncomputable def n_95_17 : e_Y := u_getf 15 3 (u_old (o_getf (e_f1 15 3) 20) n_95_20) n_95_20
theorem t_95_17 : e_Sn 95 17 (e_un n_95_17) := u_getfT (s_getf (C := er_15) (T := et_15) (N := 8) (ref := "PlateroomprinterModel$Row") (index := 111) (ci := 15) (k := 3) hq_95 ho_95 ⟨rfl, by decide, ei_15, r_m_9_66, .inl rfl⟩ (by decide +kernel) rfl : e_Sn 95 17 (o_getf (e_f1 15 3) 20)) t_95_20
noncomputable def n_95_16 : e_Y := u_old (o_dup 17) n_95_17
theorem t_95_16 : e_Sn 95 16 (e_un n_95_16) := u_oldT (s_dup hq_95 (by decide +kernel) rfl : e_Sn 95 16 (o_dup 17)) t_95_17 e_cg_dup
noncomputable def n_95_15 : e_Y := u_ld f_okA f_l1 n_95_16
theorem t_95_15 : e_Sn 95 15 (e_un n_95_15) := u_ldAT f_l1_eq (s_aload (i := .aload_n 1) (len := 1) hq_95 (by decide +kernel) rfl (.inr ⟨1, rfl, rfl, rfl⟩) : e_Sn 95 15 (o_load e_okR 1 16)) t_95_16
noncomputable def n_95_12 : e_Y := u_putf 15 1 f_okI (u_old (o_putf (e_f1 15 1) e_okI 15) n_95_15) n_95_15
theorem t_95_12 : e_Sn 95 12 (e_un n_95_12) := u_putfT (fun _ => f_okI_eq) (s_putf (ty0 := ey_15) (ok := e_okI) (C := er_15) (T := et_15) (N := 8) (ref := "PlateroomprinterModel$Row") (index := 50) (ci := 15) (k := 1) hq_95 ho_95 ⟨rfl, by decide, ei_15, r_m_9_64, .inl rfl⟩ eo_15 en_15 e_oksI (.inl rfl) (by decide +kernel) rfl : e_Sn 95 12 (o_putf (e_f1 15 1) e_okI 15)) t_95_15
noncomputable def n_95_11 : e_Y := u_push (.inl 2147483648) n_95_12
theorem t_95_11 : e_Sn 95 11 (e_un n_95_11) := u_pushT (s_iconst (n := (0)) hq_95 (by decide +kernel) rfl ⟨by decide +kernel, by decide +kernel⟩ : e_Sn 95 11 (o_push (.inl 2147483648) 12)) t_95_12
noncomputable def n_95_10 : e_Y := u_ld f_okA f_l1 n_95_11
theorem t_95_10 : e_Sn 95 10 (e_un n_95_10) := u_ldAT f_l1_eq (s_aload (i := .aload_n 1) (len := 1) hq_95 (by decide +kernel) rfl (.inr ⟨1, rfl, rfl, rfl⟩) : e_Sn 95 10 (o_load e_okR 1 11)) t_95_11
noncomputable def n_95_7 : e_Y := u_putf 16 2 f_okI (u_old (o_putf (e_f1 16 2) e_okI 10) n_95_10) n_95_10
theorem t_95_7 : e_Sn 95 7 (e_un n_95_7) := u_putfT (fun _ => f_okI_eq) (s_putf (ty0 := ey_16) (ok := e_okI) (C := er_16) (T := et_16) (N := 5) (ref := "PlateroomprinterModel$Run") (index := 57) (ci := 16) (k := 2) hq_95 ho_95 ⟨rfl, by decide, ei_16, r_m_9_91, .inl rfl⟩ eo_16 en_16 e_oksI (.inl rfl) (by decide +kernel) rfl : e_Sn 95 7 (o_putf (e_f1 16 2) e_okI 10)) t_95_10
noncomputable def n_95_6 : e_Y := u_bin a_iadd (u_old (o_iadd 7) n_95_7) n_95_7
theorem t_95_6 : e_Sn 95 6 (e_un n_95_6) := u_iaddT (s_iadd hq_95 (by decide +kernel) rfl : e_Sn 95 6 (o_iadd 7)) t_95_7
noncomputable def n_95_5 : e_Y := u_push (.inl 2147483649) n_95_6
theorem t_95_5 : e_Sn 95 5 (e_un n_95_5) := u_pushT (s_iconst (n := (1)) hq_95 (by decide +kernel) rfl ⟨by decide +kernel, by decide +kernel⟩ : e_Sn 95 5 (o_push (.inl 2147483649) 6)) t_95_6
noncomputable def n_95_2 : e_Y := u_getf 16 2 (u_old (o_getf (e_f1 16 2) 5) n_95_5) n_95_5
theorem t_95_2 : e_Sn 95 2 (e_un n_95_2) := u_getfT (s_getf (C := er_16) (T := et_16) (N := 5) (ref := "PlateroomprinterModel$Run") (index := 57) (ci := 16) (k := 2) hq_95 ho_95 ⟨rfl, by decide, ei_16, r_m_9_91, .inl rfl⟩ (by decide +kernel) rfl : e_Sn 95 2 (o_getf (e_f1 16 2) 5)) t_95_5
noncomputable def n_95_1 : e_Y := u_old (o_dup 2) n_95_2
theorem t_95_1 : e_Sn 95 1 (e_un n_95_1) := u_oldT (s_dup hq_95 (by decide +kernel) rfl : e_Sn 95 1 (o_dup 2)) t_95_2 e_cg_dup
noncomputable def n_95_0 : e_Y := u_ld f_okA f_l0 n_95_1
theorem t_95_0 : e_Sn 95 0 (e_un n_95_0) := u_ldAT f_l0_eq (s_aload (i := .aload_n 0) (len := 1) hq_95 (by decide +kernel) rfl (.inr ⟨0, rfl, rfl, rfl⟩) : e_Sn 95 0 (o_load e_okR 0 1)) t_95_1
noncomputable def e_tb_95 : e_X := (e_lf 0 (e_un n_95_0))
theorem e_tk_95 : e_Tb 95 e_tb_95 := (e_lfT t_95_0)
theorem hq_86 : (e_ml[86]?).map (·.2.1) = some prog_20_method_5_code := Eq.trans (congrArg (Option.map (fun e => e.2.1)) hy_86) rfl
theorem ho_86 : (e_ml[86]?).map (·.1.cls) = some "PlateroomprinterModel$Run" := Eq.trans (congrArg (Option.map (fun e => e.1.cls)) hy_86) rfl
theorem hr_86 : (e_ml[86]?).map (·.2.2.2) = some (some .boolean) := Eq.trans (congrArg (Option.map (fun e => e.2.2.2)) hy_86) rfl
noncomputable def n_86_109 : e_Y := u_tab (o_ret e_okZ)
theorem t_86_109 : e_Sn 86 109 (e_un n_86_109) := u_tabT (s_zret hq_86 hr_86 (by decide +kernel) : e_Sn 86 109 (o_ret e_okZ))
noncomputable def n_86_108 : e_Y := u_push (.inl 2147483649) n_86_109
theorem t_86_108 : e_Sn 86 108 (e_un n_86_108) := u_pushT (s_iconst (n := (1)) hq_86 (by decide +kernel) rfl ⟨by decide +kernel, by decide +kernel⟩ : e_Sn 86 108 (o_push (.inl 2147483649) 109)) t_86_109
noncomputable def n_86_105 : e_Y := u_callV 16 95 2 21 2 n_95_0 n_86_108
theorem t_86_105 : e_Sn 86 105 (e_un n_86_105) := u_callVT rfl (s_callV (ci := 16) (C := er_16) (T := et_16) (N := 5) (index := 114) hq_86 ho_86 hy_95 hp_95 hc_95 hi_95 hd_95 r_m_9_131 hs_95 (List.mem_of_getElem? (i := 19) (by decide +kernel)) rfl (by decide +kernel) rfl : e_Sn 86 105 (o_callV (e_s1 16 95 2) 2 108)) t_95_0 t_86_108
noncomputable def n_86_104 : e_Y := u_ld f_okA f_l1 n_86_105
theorem t_86_104 : e_Sn 86 104 (e_un n_86_104) := u_ldAT f_l1_eq (s_aload (i := .aload_n 1) (len := 1) hq_86 (by decide +kernel) rfl (.inr ⟨1, rfl, rfl, rfl⟩) : e_Sn 86 104 (o_load e_okR 1 105)) t_86_105
noncomputable def n_86_103 : e_Y := u_ld f_okA f_l0 n_86_104
theorem t_86_103 : e_Sn 86 103 (e_un n_86_103) := u_ldAT f_l0_eq (s_aload (i := .aload_n 0) (len := 1) hq_86 (by decide +kernel) rfl (.inr ⟨0, rfl, rfl, rfl⟩) : e_Sn 86 103 (o_load e_okR 0 104)) t_86_104
noncomputable def n_86_100 : e_Y := u_putf 16 4 f_okI (u_old (o_putf (e_f1 16 4) e_okI 103) n_86_103) n_86_103
theorem t_86_100 : e_Sn 86 100 (e_un n_86_100) := u_putfT (fun _ => f_okI_eq) (s_putf (ty0 := ey_16) (ok := e_okI) (C := er_16) (T := et_16) (N := 5) (ref := "PlateroomprinterModel$Run") (index := 22) (ci := 16) (k := 4) hq_86 ho_86 ⟨rfl, by decide, ei_16, r_m_9_94, .inl rfl⟩ eo_16 en_16 e_oksI (.inl rfl) (by decide +kernel) rfl : e_Sn 86 100 (o_putf (e_f1 16 4) e_okI 103)) t_86_103
noncomputable def n_86_99 : e_Y := u_bin a_isub (u_old (o_isub 100) n_86_100) n_86_100
theorem t_86_99 : e_Sn 86 99 (e_un n_86_99) := u_isubT (s_isub hq_86 (by decide +kernel) rfl : e_Sn 86 99 (o_isub 100)) t_86_100
noncomputable def n_86_98 : e_Y := u_push (.inl 2147483649) n_86_99
theorem t_86_98 : e_Sn 86 98 (e_un n_86_98) := u_pushT (s_iconst (n := (1)) hq_86 (by decide +kernel) rfl ⟨by decide +kernel, by decide +kernel⟩ : e_Sn 86 98 (o_push (.inl 2147483649) 99)) t_86_99
noncomputable def n_86_95 : e_Y := u_getf 15 1 (u_old (o_getf (e_f1 15 1) 98) n_86_98) n_86_98
theorem t_86_95 : e_Sn 86 95 (e_un n_86_95) := u_getfT (s_getf (C := er_15) (T := et_15) (N := 8) (ref := "PlateroomprinterModel$Row") (index := 50) (ci := 15) (k := 1) hq_86 ho_86 ⟨rfl, by decide, ei_15, r_m_9_64, .inl rfl⟩ (by decide +kernel) rfl : e_Sn 86 95 (o_getf (e_f1 15 1) 98)) t_86_98
noncomputable def n_86_92 : e_Y := u_old (o_cast 15 95) n_86_95
theorem t_86_92 : e_Sn 86 92 (e_un n_86_92) := u_oldT (s_cast (index := 29) hq_86 ho_86 r_m_9_55 (.inl ⟨by decide, rfl⟩) (by decide +kernel) rfl : e_Sn 86 92 (o_cast 15 95)) t_86_95 (e_cg_cast 15)
noncomputable def n_86_89 : e_Y := u_callV 19 110 2 21 2 n_110_0 n_86_92
theorem t_86_89 : e_Sn 86 89 (e_un n_86_89) := u_callVT rfl (s_callV (ci := 19) (C := er_19) (T := et_19) (N := 3) (index := 42) hq_86 ho_86 hy_110 hp_110 hc_110 hi_110 hd_110 r_m_9_121 hs_110 r_m_8_230 rfl (by decide +kernel) rfl : e_Sn 86 89 (o_callV (e_s1 19 110 2) 2 92)) t_110_0 t_86_92
noncomputable def n_86_88 : e_Y := u_bin a_isub (u_old (o_isub 89) n_86_89) n_86_89
theorem t_86_88 : e_Sn 86 88 (e_un n_86_88) := u_isubT (s_isub hq_86 (by decide +kernel) rfl : e_Sn 86 88 (o_isub 89)) t_86_89
noncomputable def n_86_87 : e_Y := u_push (.inl 2147483650) n_86_88
theorem t_86_87 : e_Sn 86 87 (e_un n_86_87) := u_pushT (s_iconst (n := (2)) hq_86 (by decide +kernel) rfl ⟨by decide +kernel, by decide +kernel⟩ : e_Sn 86 87 (o_push (.inl 2147483650) 88)) t_86_88
noncomputable def n_86_84 : e_Y := u_callV 19 116 1 20 1 n_116_0 n_86_87
theorem t_86_84 : e_Sn 86 84 (e_un n_86_84) := u_callVT rfl (s_callV (ci := 19) (C := er_19) (T := et_19) (N := 3) (index := 38) hq_86 ho_86 hy_116 hp_116 hc_116 hi_116 hd_116 r_m_9_120 hs_116 r_m_8_181 rfl (by decide +kernel) rfl : e_Sn 86 84 (o_callV (e_s1 19 116 1) 1 87)) t_116_0 t_86_87
noncomputable def n_86_81 : e_Y := u_getf 16 1 (u_old (o_getf (e_f1 16 1) 84) n_86_84) n_86_84
theorem t_86_81 : e_Sn 86 81 (e_un n_86_81) := u_getfT (s_getf (C := er_16) (T := et_16) (N := 5) (ref := "PlateroomprinterModel$Run") (index := 12) (ci := 16) (k := 1) hq_86 ho_86 ⟨rfl, by decide, ei_16, r_m_9_90, .inl rfl⟩ (by decide +kernel) rfl : e_Sn 86 81 (o_getf (e_f1 16 1) 84)) t_86_84
noncomputable def n_86_80 : e_Y := u_ld f_okA f_l0 n_86_81
theorem t_86_80 : e_Sn 86 80 (e_un n_86_80) := u_ldAT f_l0_eq (s_aload (i := .aload_n 0) (len := 1) hq_86 (by decide +kernel) rfl (.inr ⟨0, rfl, rfl, rfl⟩) : e_Sn 86 80 (o_load e_okR 0 81)) t_86_81
noncomputable def n_86_77 : e_Y := u_getf 16 1 (u_old (o_getf (e_f1 16 1) 80) n_86_80) n_86_80
theorem t_86_77 : e_Sn 86 77 (e_un n_86_77) := u_getfT (s_getf (C := er_16) (T := et_16) (N := 5) (ref := "PlateroomprinterModel$Run") (index := 12) (ci := 16) (k := 1) hq_86 ho_86 ⟨rfl, by decide, ei_16, r_m_9_90, .inl rfl⟩ (by decide +kernel) rfl : e_Sn 86 77 (o_getf (e_f1 16 1) 80)) t_86_80
noncomputable def n_86_76 : e_Y := u_ld f_okA f_l0 n_86_77
theorem t_86_76 : e_Sn 86 76 (e_un n_86_76) := u_ldAT f_l0_eq (s_aload (i := .aload_n 0) (len := 1) hq_86 (by decide +kernel) rfl (.inr ⟨0, rfl, rfl, rfl⟩) : e_Sn 86 76 (o_load e_okR 0 77)) t_86_77
noncomputable def n_86_75 : e_Y := u_ld f_okA f_l0 n_86_76
theorem t_86_75 : e_Sn 86 75 (e_un n_86_75) := u_ldAT f_l0_eq (s_aload (i := .aload_n 0) (len := 1) hq_86 (by decide +kernel) rfl (.inr ⟨0, rfl, rfl, rfl⟩) : e_Sn 86 75 (o_load e_okR 0 76)) t_86_76
noncomputable def n_86_72 : e_Y := u_putf 16 3 f_okI (u_old (o_putf (e_f1 16 3) e_okI 75) n_86_75) n_86_75
theorem t_86_72 : e_Sn 86 72 (e_un n_86_72) := u_putfT (fun _ => f_okI_eq) (s_putf (ty0 := ey_16) (ok := e_okI) (C := er_16) (T := et_16) (N := 5) (ref := "PlateroomprinterModel$Run") (index := 18) (ci := 16) (k := 3) hq_86 ho_86 ⟨rfl, by decide, ei_16, r_m_9_92, .inl rfl⟩ eo_16 en_16 e_oksI (.inl rfl) (by decide +kernel) rfl : e_Sn 86 72 (o_putf (e_f1 16 3) e_okI 75)) t_86_75
noncomputable def n_86_71 : e_Y := u_bin a_isub (u_old (o_isub 72) n_86_72) n_86_72
theorem t_86_71 : e_Sn 86 71 (e_un n_86_71) := u_isubT (s_isub hq_86 (by decide +kernel) rfl : e_Sn 86 71 (o_isub 72)) t_86_72
noncomputable def n_86_70 : e_Y := u_push (.inl 2147483649) n_86_71
theorem t_86_70 : e_Sn 86 70 (e_un n_86_70) := u_pushT (s_iconst (n := (1)) hq_86 (by decide +kernel) rfl ⟨by decide +kernel, by decide +kernel⟩ : e_Sn 86 70 (o_push (.inl 2147483649) 71)) t_86_71
noncomputable def n_86_67 : e_Y := u_getf 15 1 (u_old (o_getf (e_f1 15 1) 70) n_86_70) n_86_70
theorem t_86_67 : e_Sn 86 67 (e_un n_86_67) := u_getfT (s_getf (C := er_15) (T := et_15) (N := 8) (ref := "PlateroomprinterModel$Row") (index := 50) (ci := 15) (k := 1) hq_86 ho_86 ⟨rfl, by decide, ei_15, r_m_9_64, .inl rfl⟩ (by decide +kernel) rfl : e_Sn 86 67 (o_getf (e_f1 15 1) 70)) t_86_70
noncomputable def n_86_64 : e_Y := u_old (o_cast 15 67) n_86_67
theorem t_86_64 : e_Sn 86 64 (e_un n_86_64) := u_oldT (s_cast (index := 29) hq_86 ho_86 r_m_9_55 (.inl ⟨by decide, rfl⟩) (by decide +kernel) rfl : e_Sn 86 64 (o_cast 15 67)) t_86_67 (e_cg_cast 15)
noncomputable def n_86_61 : e_Y := u_callV 19 110 2 21 2 n_110_0 n_86_64
theorem t_86_61 : e_Sn 86 61 (e_un n_86_61) := u_callVT rfl (s_callV (ci := 19) (C := er_19) (T := et_19) (N := 3) (index := 42) hq_86 ho_86 hy_110 hp_110 hc_110 hi_110 hd_110 r_m_9_121 hs_110 r_m_8_230 rfl (by decide +kernel) rfl : e_Sn 86 61 (o_callV (e_s1 19 110 2) 2 64)) t_110_0 t_86_64
noncomputable def n_86_60 : e_Y := u_push (.inl 2147483648) n_86_61
theorem t_86_60 : e_Sn 86 60 (e_un n_86_60) := u_pushT (s_iconst (n := (0)) hq_86 (by decide +kernel) rfl ⟨by decide +kernel, by decide +kernel⟩ : e_Sn 86 60 (o_push (.inl 2147483648) 61)) t_86_61
noncomputable def n_86_57 : e_Y := u_getf 16 1 (u_old (o_getf (e_f1 16 1) 60) n_86_60) n_86_60
theorem t_86_57 : e_Sn 86 57 (e_un n_86_57) := u_getfT (s_getf (C := er_16) (T := et_16) (N := 5) (ref := "PlateroomprinterModel$Run") (index := 12) (ci := 16) (k := 1) hq_86 ho_86 ⟨rfl, by decide, ei_16, r_m_9_90, .inl rfl⟩ (by decide +kernel) rfl : e_Sn 86 57 (o_getf (e_f1 16 1) 60)) t_86_60
noncomputable def n_86_56 : e_Y := u_ld f_okA f_l0 n_86_57
theorem t_86_56 : e_Sn 86 56 (e_un n_86_56) := u_ldAT f_l0_eq (s_aload (i := .aload_n 0) (len := 1) hq_86 (by decide +kernel) rfl (.inr ⟨0, rfl, rfl, rfl⟩) : e_Sn 86 56 (o_load e_okR 0 57)) t_86_57
noncomputable def n_86_55 : e_Y := u_ld f_okA f_l0 n_86_56
theorem t_86_55 : e_Sn 86 55 (e_un n_86_55) := u_ldAT f_l0_eq (s_aload (i := .aload_n 0) (len := 1) hq_86 (by decide +kernel) rfl (.inr ⟨0, rfl, rfl, rfl⟩) : e_Sn 86 55 (o_load e_okR 0 56)) t_86_56
noncomputable def n_86_54 : e_Y := u_tab (o_ret e_okZ)
theorem t_86_54 : e_Sn 86 54 (e_un n_86_54) := u_tabT (s_zret hq_86 hr_86 (by decide +kernel) : e_Sn 86 54 (o_ret e_okZ))
noncomputable def n_86_53 : e_Y := u_push (.inl 2147483648) n_86_54
theorem t_86_53 : e_Sn 86 53 (e_un n_86_53) := u_pushT (s_iconst (n := (0)) hq_86 (by decide +kernel) rfl ⟨by decide +kernel, by decide +kernel⟩ : e_Sn 86 53 (o_push (.inl 2147483648) 54)) t_86_54
noncomputable def n_86_50 : e_Y := u_if y_ne0 (u_old2 (o_ifeq 53 55) 53 n_86_53 n_86_55) n_86_53 n_86_55
theorem t_86_50 : e_Sn 86 50 (e_un n_86_50) := u_ifeqT rfl (s_ifne (off := (5)) hq_86 (by decide +kernel) rfl rfl : e_Sn 86 50 (o_ifeq 53 55)) t_86_53 t_86_55
noncomputable def n_86_47 : e_Y := u_getf 15 3 (u_old (o_getf (e_f1 15 3) 50) n_86_50) n_86_50
theorem t_86_47 : e_Sn 86 47 (e_un n_86_47) := u_getfT (s_getf (C := er_15) (T := et_15) (N := 8) (ref := "PlateroomprinterModel$Row") (index := 111) (ci := 15) (k := 3) hq_86 ho_86 ⟨rfl, by decide, ei_15, r_m_9_66, .inl rfl⟩ (by decide +kernel) rfl : e_Sn 86 47 (o_getf (e_f1 15 3) 50)) t_86_50
noncomputable def n_86_46 : e_Y := u_ld f_okA f_l1 n_86_47
theorem t_86_46 : e_Sn 86 46 (e_un n_86_46) := u_ldAT f_l1_eq (s_aload (i := .aload_n 1) (len := 1) hq_86 (by decide +kernel) rfl (.inr ⟨1, rfl, rfl, rfl⟩) : e_Sn 86 46 (o_load e_okR 1 47)) t_86_47
noncomputable def n_86_4 : e_Y := u_if y_ne0 (u_old2 (o_ifeq 46 7) 46 n_86_46 (u_at 7)) n_86_46 (u_at 7)
theorem t_86_4 : e_Sn 86 4 (e_un n_86_4) := u_ifeqT rfl (s_ifeq (off := (42)) hq_86 (by decide +kernel) rfl rfl : e_Sn 86 4 (o_ifeq 46 7)) t_86_46 u_atT
noncomputable def n_86_1 : e_Y := u_getf 15 4 (u_old (o_getf (e_f1 15 4) 4) n_86_4) n_86_4
theorem t_86_1 : e_Sn 86 1 (e_un n_86_1) := u_getfT (s_getf (C := er_15) (T := et_15) (N := 8) (ref := "PlateroomprinterModel$Row") (index := 98) (ci := 15) (k := 4) hq_86 ho_86 ⟨rfl, by decide, ei_15, r_m_9_67, .inl rfl⟩ (by decide +kernel) rfl : e_Sn 86 1 (o_getf (e_f1 15 4) 4)) t_86_4
noncomputable def n_86_0 : e_Y := u_ld f_okA f_l1 n_86_1
theorem t_86_0 : e_Sn 86 0 (e_un n_86_0) := u_ldAT f_l1_eq (s_aload (i := .aload_n 1) (len := 1) hq_86 (by decide +kernel) rfl (.inr ⟨1, rfl, rfl, rfl⟩) : e_Sn 86 0 (o_load e_okR 1 1)) t_86_1
noncomputable def e_tb_86 : e_X := (e_lf 0 (e_un n_86_0))
theorem e_tk_86 : e_Tb 86 e_tb_86 := (e_lfT t_86_0)
noncomputable def n_98_19 : e_Y := u_retA
theorem t_98_19 : e_Sn 98 19 (e_un n_98_19) := u_retAT (s_aret (.inl ⟨_, rfl⟩) hq_98 hr_98 (by decide +kernel) : e_Sn 98 19 (o_ret e_okR))
noncomputable def n_98_16 : e_Y := u_old (o_cast 15 19) n_98_19
theorem t_98_16 : e_Sn 98 16 (e_un n_98_16) := u_oldT (s_cast (index := 29) hq_98 ho_98 r_m_9_55 (.inl ⟨by decide, rfl⟩) (by decide +kernel) rfl : e_Sn 98 16 (o_cast 15 19)) t_98_19 (e_cg_cast 15)
noncomputable def n_98_13 : e_Y := u_callV 19 110 2 21 2 n_110_0 n_98_16
theorem t_98_13 : e_Sn 98 13 (e_un n_98_13) := u_callVT rfl (s_callV (ci := 19) (C := er_19) (T := et_19) (N := 3) (index := 42) hq_98 ho_98 hy_110 hp_110 hc_110 hi_110 hd_110 r_m_9_121 hs_110 r_m_8_230 rfl (by decide +kernel) rfl : e_Sn 98 13 (o_callV (e_s1 19 110 2) 2 16)) t_110_0 t_98_16
noncomputable def n_98_12 : e_Y := u_bin a_isub (u_old (o_isub 13) n_98_13) n_98_13
theorem t_98_12 : e_Sn 98 12 (e_un n_98_12) := u_isubT (s_isub hq_98 (by decide +kernel) rfl : e_Sn 98 12 (o_isub 13)) t_98_13
noncomputable def n_98_11 : e_Y := u_push (.inl 2147483649) n_98_12
theorem t_98_11 : e_Sn 98 11 (e_un n_98_11) := u_pushT (s_iconst (n := (1)) hq_98 (by decide +kernel) rfl ⟨by decide +kernel, by decide +kernel⟩ : e_Sn 98 11 (o_push (.inl 2147483649) 12)) t_98_12
noncomputable def n_98_8 : e_Y := u_callV 19 116 1 20 1 n_116_0 n_98_11
theorem t_98_8 : e_Sn 98 8 (e_un n_98_8) := u_callVT rfl (s_callV (ci := 19) (C := er_19) (T := et_19) (N := 3) (index := 38) hq_98 ho_98 hy_116 hp_116 hc_116 hi_116 hd_116 r_m_9_120 hs_116 r_m_8_181 rfl (by decide +kernel) rfl : e_Sn 98 8 (o_callV (e_s1 19 116 1) 1 11)) t_116_0 t_98_11
noncomputable def n_98_5 : e_Y := u_getf 16 1 (u_old (o_getf (e_f1 16 1) 8) n_98_8) n_98_8
theorem t_98_5 : e_Sn 98 5 (e_un n_98_5) := u_getfT (s_getf (C := er_16) (T := et_16) (N := 5) (ref := "PlateroomprinterModel$Run") (index := 12) (ci := 16) (k := 1) hq_98 ho_98 ⟨rfl, by decide, ei_16, r_m_9_90, .inl rfl⟩ (by decide +kernel) rfl : e_Sn 98 5 (o_getf (e_f1 16 1) 8)) t_98_8
noncomputable def n_98_4 : e_Y := u_ld f_okA f_l0 n_98_5
theorem t_98_4 : e_Sn 98 4 (e_un n_98_4) := u_ldAT f_l0_eq (s_aload (i := .aload_n 0) (len := 1) hq_98 (by decide +kernel) rfl (.inr ⟨0, rfl, rfl, rfl⟩) : e_Sn 98 4 (o_load e_okR 0 5)) t_98_5
noncomputable def n_98_1 : e_Y := u_getf 16 1 (u_old (o_getf (e_f1 16 1) 4) n_98_4) n_98_4
theorem t_98_1 : e_Sn 98 1 (e_un n_98_1) := u_getfT (s_getf (C := er_16) (T := et_16) (N := 5) (ref := "PlateroomprinterModel$Run") (index := 12) (ci := 16) (k := 1) hq_98 ho_98 ⟨rfl, by decide, ei_16, r_m_9_90, .inl rfl⟩ (by decide +kernel) rfl : e_Sn 98 1 (o_getf (e_f1 16 1) 4)) t_98_4
noncomputable def nb_98 : e_Y := u_ld f_okA f_l0 n_98_1
theorem tb_98 : e_Sn 98 0 (e_un nb_98) := u_ldAT f_l0_eq (s_aload (i := .aload_n 0) (len := 1) hq_98 (by decide +kernel) rfl (.inr ⟨0, rfl, rfl, rfl⟩) : e_Sn 98 0 (o_load e_okR 0 1)) t_98_1
noncomputable def n_98_0 : e_Y := rq_nd (rq_topO (some (e_un nb_98)))
theorem t_98_0 : e_Sn 98 0 (e_un n_98_0) := rq_ndT (rq_topT (fun o h => by cases h; exact tb_98))
noncomputable def e_tb_98 : e_X := (e_lf 0 (e_un n_98_0))
theorem e_tk_98 : e_Tb 98 e_tb_98 := (e_lfT t_98_0)
theorem hq_113 : (e_ml[113]?).map (·.2.1) = some prog_50_method_9_code := Eq.trans (congrArg (Option.map (fun e => e.2.1)) hy_113) rfl
theorem ho_113 : (e_ml[113]?).map (·.1.cls) = some "java/util/ArrayList" := Eq.trans (congrArg (Option.map (fun e => e.1.cls)) hy_113) rfl
theorem hr_113 : (e_ml[113]?).map (·.2.2.2) = some (some .boolean) := Eq.trans (congrArg (Option.map (fun e => e.2.2.2)) hy_113) rfl
noncomputable def n_113_12 : e_Y := u_tab (o_ret e_okZ)
theorem t_113_12 : e_Sn 113 12 (e_un n_113_12) := u_tabT (s_zret hq_113 hr_113 (by decide +kernel) : e_Sn 113 12 (o_ret e_okZ))
noncomputable def n_113_11 : e_Y := u_push (.inl 2147483648) n_113_12
theorem t_113_11 : e_Sn 113 11 (e_un n_113_11) := u_pushT (s_iconst (n := (0)) hq_113 (by decide +kernel) rfl ⟨by decide +kernel, by decide +kernel⟩ : e_Sn 113 11 (o_push (.inl 2147483648) 12)) t_113_12
noncomputable def n_113_8 : e_Y := n_113_12
theorem t_113_8 : e_Sn 113 8 (e_un n_113_8) := u_gotoT (s_goto (off := (4)) hq_113 (by decide +kernel) rfl : e_Sn 113 8 (o_goto 12)) t_113_12
noncomputable def n_113_7 : e_Y := u_push (.inl 2147483649) n_113_8
theorem t_113_7 : e_Sn 113 7 (e_un n_113_7) := u_pushT (s_iconst (n := (1)) hq_113 (by decide +kernel) rfl ⟨by decide +kernel, by decide +kernel⟩ : e_Sn 113 7 (o_push (.inl 2147483649) 8)) t_113_8
noncomputable def n_113_4 : e_Y := u_if y_ne0 (u_old2 (o_ifeq 7 11) 7 n_113_7 n_113_11) n_113_7 n_113_11
theorem t_113_4 : e_Sn 113 4 (e_un n_113_4) := u_ifeqT rfl (s_ifne (off := (7)) hq_113 (by decide +kernel) rfl rfl : e_Sn 113 4 (o_ifeq 7 11)) t_113_7 t_113_11
noncomputable def n_113_1 : e_Y := u_getf 19 1 (u_old (o_getf (e_f1 19 1) 4) n_113_4) n_113_4
theorem t_113_1 : e_Sn 113 1 (e_un n_113_1) := u_getfT (s_getf (C := er_19) (T := et_19) (N := 3) (ref := "java/util/ArrayList") (index := 48) (ci := 19) (k := 1) hq_113 ho_113 ⟨rfl, by decide, ei_19, r_m_7_190, .inl rfl⟩ (by decide +kernel) rfl : e_Sn 113 1 (o_getf (e_f1 19 1) 4)) t_113_4
noncomputable def n_113_0 : e_Y := u_ld f_okA f_l0 n_113_1
theorem t_113_0 : e_Sn 113 0 (e_un n_113_0) := u_ldAT f_l0_eq (s_aload (i := .aload_n 0) (len := 1) hq_113 (by decide +kernel) rfl (.inr ⟨0, rfl, rfl, rfl⟩) : e_Sn 113 0 (o_load e_okR 0 1)) t_113_1
noncomputable def e_tb_113 : e_X := (e_lf 0 (e_un n_113_0))
theorem e_tk_113 : e_Tb 113 e_tb_113 := (e_lfT t_113_0)
theorem hq_109 : (e_ml[109]?).map (·.2.1) = some prog_50_method_39_code := Eq.trans (congrArg (Option.map (fun e => e.2.1)) hy_109) rfl
theorem ho_109 : (e_ml[109]?).map (·.1.cls) = some "java/util/ArrayList" := Eq.trans (congrArg (Option.map (fun e => e.1.cls)) hy_109) rfl
theorem hr_109 : (e_ml[109]?).map (·.2.2.2) = some none := Eq.trans (congrArg (Option.map (fun e => e.2.2.2)) hy_109) rfl
noncomputable def n_109_43 : e_Y := u_retV
theorem t_109_43 : e_Sn 109 43 (e_un n_109_43) := u_retVT (s_vret hq_109 hr_109 (by decide +kernel) : e_Sn 109 43 (o_retv))
noncomputable def n_109_42 : e_Y := u_old (o_astR 3 (fun _ => false) 43) n_109_43
theorem t_109_42 : e_Sn 109 42 (e_un n_109_42) := u_oldT (s_aast (tc := 0) (E := "java/lang/Object") hq_109 rfl (by decide) (fun k hk => by cases hk) (by decide +kernel) rfl : e_Sn 109 42 (o_astR 3 (fun _ => false) 43)) t_109_43 (e_cg_astR 3 (fun _ => false))
noncomputable def n_109_41 : e_Y := u_push e_N n_109_42
theorem t_109_41 : e_Sn 109 41 (e_un n_109_41) := u_pushT (s_null hq_109 (by decide +kernel) rfl : e_Sn 109 41 (o_push e_N 42)) t_109_42
noncomputable def n_109_38 : e_Y := u_putf 19 1 f_okI (u_old (o_putf (e_f1 19 1) e_okI 41) n_109_41) n_109_41
theorem t_109_38 : e_Sn 109 38 (e_un n_109_38) := u_putfT (fun _ => f_okI_eq) (s_putf (ty0 := ey_19) (ok := e_okI) (C := er_19) (T := et_19) (N := 3) (ref := "java/util/ArrayList") (index := 48) (ci := 19) (k := 1) hq_109 ho_109 ⟨rfl, by decide, ei_19, r_m_7_190, .inl rfl⟩ eo_19 en_19 e_oksI (.inl rfl) (by decide +kernel) rfl : e_Sn 109 38 (o_putf (e_f1 19 1) e_okI 41)) t_109_41
noncomputable def n_109_37 : e_Y := u_old (o_dup_x1 38) n_109_38
theorem t_109_37 : e_Sn 109 37 (e_un n_109_37) := u_oldT (s_dup_x1 hq_109 (by decide +kernel) rfl : e_Sn 109 37 (o_dup_x1 38)) t_109_38 e_cg_dup_x1
noncomputable def n_109_36 : e_Y := u_ld f_okI f_l3 n_109_37
theorem t_109_36 : e_Sn 109 36 (e_un n_109_36) := u_ldIT f_l3_eq (s_iload (i := .iload_n 3) (len := 1) hq_109 (by decide +kernel) rfl (.inr ⟨3, rfl, rfl, rfl⟩) : e_Sn 109 36 (o_load e_okI 3 37)) t_109_37
noncomputable def n_109_35 : e_Y := u_ld f_okA f_l0 n_109_36
theorem t_109_35 : e_Sn 109 35 (e_un n_109_35) := u_ldAT f_l0_eq (s_aload (i := .aload_n 0) (len := 1) hq_109 (by decide +kernel) rfl (.inr ⟨0, rfl, rfl, rfl⟩) : e_Sn 109 35 (o_load e_okR 0 36)) t_109_36
noncomputable def n_109_34 : e_Y := u_ld f_okA f_l1 n_109_35
theorem t_109_34 : e_Sn 109 34 (e_un n_109_34) := u_ldAT f_l1_eq (s_aload (i := .aload_n 1) (len := 1) hq_109 (by decide +kernel) rfl (.inr ⟨1, rfl, rfl, rfl⟩) : e_Sn 109 34 (o_load e_okR 1 35)) t_109_35
noncomputable def n_109_19 : e_Y := u_jmp y_le (u_old2 (o_cgt 22 34) 22 (u_at 22) n_109_34) (u_at 22) n_109_34
theorem t_109_19 : e_Sn 109 19 (e_un n_109_19) := u_cgtT rfl (s_cle (off := (15)) hq_109 (by decide +kernel) rfl rfl : e_Sn 109 19 (o_cgt 22 34)) u_atT t_109_34
noncomputable def n_109_18 : e_Y := u_ld f_okI f_l2 n_109_19
theorem t_109_18 : e_Sn 109 18 (e_un n_109_18) := u_ldIT f_l2_eq (s_iload (i := .iload_n 2) (len := 1) hq_109 (by decide +kernel) rfl (.inr ⟨2, rfl, rfl, rfl⟩) : e_Sn 109 18 (o_load e_okI 2 19)) t_109_19
noncomputable def n_109_17 : e_Y := u_st f_okI f_s3 n_109_18
theorem t_109_17 : e_Sn 109 17 (e_un n_109_17) := u_stIT (fun _ _ _ => f_s3_eq) (s_istore (i := .istore_n 3) (len := 1) hq_109 (by decide +kernel) rfl (.inr ⟨3, rfl, rfl, rfl⟩) : e_Sn 109 17 (o_store e_okI 3 18)) t_109_18
noncomputable def n_109_16 : e_Y := u_old (o_dup 17) n_109_17
theorem t_109_16 : e_Sn 109 16 (e_un n_109_16) := u_oldT (s_dup hq_109 (by decide +kernel) rfl : e_Sn 109 16 (o_dup 17)) t_109_17 e_cg_dup
noncomputable def n_109_15 : e_Y := u_bin a_isub (u_old (o_isub 16) n_109_16) n_109_16
theorem t_109_15 : e_Sn 109 15 (e_un n_109_15) := u_isubT (s_isub hq_109 (by decide +kernel) rfl : e_Sn 109 15 (o_isub 16)) t_109_16
noncomputable def n_109_14 : e_Y := u_push (.inl 2147483649) n_109_15
theorem t_109_14 : e_Sn 109 14 (e_un n_109_14) := u_pushT (s_iconst (n := (1)) hq_109 (by decide +kernel) rfl ⟨by decide +kernel, by decide +kernel⟩ : e_Sn 109 14 (o_push (.inl 2147483649) 15)) t_109_15
noncomputable def n_109_11 : e_Y := u_getf 19 1 (u_old (o_getf (e_f1 19 1) 14) n_109_14) n_109_14
theorem t_109_11 : e_Sn 109 11 (e_un n_109_11) := u_getfT (s_getf (C := er_19) (T := et_19) (N := 3) (ref := "java/util/ArrayList") (index := 48) (ci := 19) (k := 1) hq_109 ho_109 ⟨rfl, by decide, ei_19, r_m_7_190, .inl rfl⟩ (by decide +kernel) rfl : e_Sn 109 11 (o_getf (e_f1 19 1) 14)) t_109_14
noncomputable def n_109_10 : e_Y := u_ld f_okA f_l0 n_109_11
theorem t_109_10 : e_Sn 109 10 (e_un n_109_10) := u_ldAT f_l0_eq (s_aload (i := .aload_n 0) (len := 1) hq_109 (by decide +kernel) rfl (.inr ⟨0, rfl, rfl, rfl⟩) : e_Sn 109 10 (o_load e_okR 0 11)) t_109_11
noncomputable def n_109_7 : e_Y := u_putf 19 2 f_okI (u_old (o_putf (e_f1 19 2) e_okI 10) n_109_10) n_109_10
theorem t_109_7 : e_Sn 109 7 (e_un n_109_7) := u_putfT (fun _ => f_okI_eq) (s_putf (ty0 := ey_19) (ok := e_okI) (C := er_19) (T := et_19) (N := 3) (ref := "java/util/ArrayList") (index := 63) (ci := 19) (k := 2) hq_109 ho_109 ⟨rfl, by decide, ei_19, r_m_7_194, .inr r_m_7_193⟩ eo_19 en_19 e_oksI (.inl rfl) (by decide +kernel) rfl : e_Sn 109 7 (o_putf (e_f1 19 2) e_okI 10)) t_109_10
noncomputable def n_109_6 : e_Y := u_bin a_iadd (u_old (o_iadd 7) n_109_7) n_109_7
theorem t_109_6 : e_Sn 109 6 (e_un n_109_6) := u_iaddT (s_iadd hq_109 (by decide +kernel) rfl : e_Sn 109 6 (o_iadd 7)) t_109_7
noncomputable def n_109_5 : e_Y := u_push (.inl 2147483649) n_109_6
theorem t_109_5 : e_Sn 109 5 (e_un n_109_5) := u_pushT (s_iconst (n := (1)) hq_109 (by decide +kernel) rfl ⟨by decide +kernel, by decide +kernel⟩ : e_Sn 109 5 (o_push (.inl 2147483649) 6)) t_109_6
noncomputable def n_109_2 : e_Y := u_getf 19 2 (u_old (o_getf (e_f1 19 2) 5) n_109_5) n_109_5
theorem t_109_2 : e_Sn 109 2 (e_un n_109_2) := u_getfT (s_getf (C := er_19) (T := et_19) (N := 3) (ref := "java/util/ArrayList") (index := 63) (ci := 19) (k := 2) hq_109 ho_109 ⟨rfl, by decide, ei_19, r_m_7_194, .inr r_m_7_193⟩ (by decide +kernel) rfl : e_Sn 109 2 (o_getf (e_f1 19 2) 5)) t_109_5
noncomputable def n_109_1 : e_Y := u_old (o_dup 2) n_109_2
theorem t_109_1 : e_Sn 109 1 (e_un n_109_1) := u_oldT (s_dup hq_109 (by decide +kernel) rfl : e_Sn 109 1 (o_dup 2)) t_109_2 e_cg_dup
noncomputable def n_109_0 : e_Y := u_ld f_okA f_l0 n_109_1
theorem t_109_0 : e_Sn 109 0 (e_un n_109_0) := u_ldAT f_l0_eq (s_aload (i := .aload_n 0) (len := 1) hq_109 (by decide +kernel) rfl (.inr ⟨0, rfl, rfl, rfl⟩) : e_Sn 109 0 (o_load e_okR 0 1)) t_109_1
noncomputable def e_tb_109 : e_X := (e_lf 0 (e_un n_109_0))
theorem e_tk_109 : e_Tb 109 e_tb_109 := (e_lfT t_109_0)
theorem hq_114 : (e_ml[114]?).map (·.2.1) = some prog_50_method_29_code := Eq.trans (congrArg (Option.map (fun e => e.2.1)) hy_114) rfl
theorem ho_114 : (e_ml[114]?).map (·.1.cls) = some "java/util/ArrayList" := Eq.trans (congrArg (Option.map (fun e => e.1.cls)) hy_114) rfl
theorem hr_114 : (e_ml[114]?).map (·.2.2.2) = some (some (.object "java/lang/Object")) := Eq.trans (congrArg (Option.map (fun e => e.2.2.2)) hy_114) rfl
noncomputable def n_114_25 : e_Y := u_retA
theorem t_114_25 : e_Sn 114 25 (e_un n_114_25) := u_retAT (s_aret (.inl ⟨_, rfl⟩) hq_114 hr_114 (by decide +kernel) : e_Sn 114 25 (o_ret e_okR))
noncomputable def n_114_24 : e_Y := u_ld f_okA f_l3 n_114_25
theorem t_114_24 : e_Sn 114 24 (e_un n_114_24) := u_ldAT f_l3_eq (s_aload (i := .aload_n 3) (len := 1) hq_114 (by decide +kernel) rfl (.inr ⟨3, rfl, rfl, rfl⟩) : e_Sn 114 24 (o_load e_okR 3 25)) t_114_25
noncomputable def n_114_21 : e_Y := u_callV 19 109 4 23 3 n_109_0 n_114_24
theorem t_114_21 : e_Sn 114 21 (e_un n_114_21) := u_callVT rfl (s_callV (ci := 19) (C := er_19) (T := et_19) (N := 3) (index := 144) hq_114 ho_114 hy_109 hp_109 hc_109 hi_109 hd_109 (r_k8 (List.mem_of_getElem? (i := 206) (by decide +kernel))) hs_109 (List.mem_of_getElem? (i := 15) (by decide +kernel)) rfl (by decide +kernel) rfl : e_Sn 114 21 (o_callV (e_s1 19 109 4) 3 24)) t_109_0 t_114_24
noncomputable def n_114_20 : e_Y := u_ld f_okI f_l1 n_114_21
theorem t_114_20 : e_Sn 114 20 (e_un n_114_20) := u_ldIT f_l1_eq (s_iload (i := .iload_n 1) (len := 1) hq_114 (by decide +kernel) rfl (.inr ⟨1, rfl, rfl, rfl⟩) : e_Sn 114 20 (o_load e_okI 1 21)) t_114_21
noncomputable def n_114_19 : e_Y := u_ld f_okA f_l2 n_114_20
theorem t_114_19 : e_Sn 114 19 (e_un n_114_19) := u_ldAT f_l2_eq (s_aload (i := .aload_n 2) (len := 1) hq_114 (by decide +kernel) rfl (.inr ⟨2, rfl, rfl, rfl⟩) : e_Sn 114 19 (o_load e_okR 2 20)) t_114_20
noncomputable def n_114_18 : e_Y := u_ld f_okA f_l0 n_114_19
theorem t_114_18 : e_Sn 114 18 (e_un n_114_18) := u_ldAT f_l0_eq (s_aload (i := .aload_n 0) (len := 1) hq_114 (by decide +kernel) rfl (.inr ⟨0, rfl, rfl, rfl⟩) : e_Sn 114 18 (o_load e_okR 0 19)) t_114_19
noncomputable def n_114_17 : e_Y := u_st f_okA f_s3 n_114_18
theorem t_114_17 : e_Sn 114 17 (e_un n_114_17) := u_stAT (fun _ _ _ => f_s3_eq) (s_astore (i := .astore_n 3) (len := 1) hq_114 (by decide +kernel) rfl (.inr ⟨3, rfl, rfl, rfl⟩) : e_Sn 114 17 (o_store e_okR 3 18)) t_114_18
noncomputable def n_114_16 : e_Y := u_ald 3 (u_old (o_aldO 3 17) n_114_17) n_114_17
theorem t_114_16 : e_Sn 114 16 (e_un n_114_16) := u_aldOT (s_aald (tc := 0) rfl hq_114 (by decide +kernel) rfl : e_Sn 114 16 (o_aldO 3 17)) t_114_17
noncomputable def n_114_15 : e_Y := u_ld f_okI f_l1 n_114_16
theorem t_114_15 : e_Sn 114 15 (e_un n_114_15) := u_ldIT f_l1_eq (s_iload (i := .iload_n 1) (len := 1) hq_114 (by decide +kernel) rfl (.inr ⟨1, rfl, rfl, rfl⟩) : e_Sn 114 15 (o_load e_okI 1 16)) t_114_16
noncomputable def n_114_14 : e_Y := u_ld f_okA f_l2 n_114_15
theorem t_114_14 : e_Sn 114 14 (e_un n_114_14) := u_ldAT f_l2_eq (s_aload (i := .aload_n 2) (len := 1) hq_114 (by decide +kernel) rfl (.inr ⟨2, rfl, rfl, rfl⟩) : e_Sn 114 14 (o_load e_okR 2 15)) t_114_15
noncomputable def n_114_13 : e_Y := u_st f_okA f_s2 n_114_14
theorem t_114_13 : e_Sn 114 13 (e_un n_114_13) := u_stAT (fun _ _ _ => f_s2_eq) (s_astore (i := .astore_n 2) (len := 1) hq_114 (by decide +kernel) rfl (.inr ⟨2, rfl, rfl, rfl⟩) : e_Sn 114 13 (o_store e_okR 2 14)) t_114_14
noncomputable def n_114_10 : e_Y := u_getf 19 0 (u_old (o_getf (e_f1 19 0) 13) n_114_13) n_114_13
theorem t_114_10 : e_Sn 114 10 (e_un n_114_10) := u_getfT (s_getf (C := er_19) (T := et_19) (N := 3) (ref := "java/util/ArrayList") (index := 9) (ci := 19) (k := 0) hq_114 ho_114 ⟨rfl, by decide, ei_19, r_m_7_187, .inl rfl⟩ (by decide +kernel) rfl : e_Sn 114 10 (o_getf (e_f1 19 0) 13)) t_114_13
noncomputable def n_114_9 : e_Y := u_ld f_okA f_l0 n_114_10
theorem t_114_9 : e_Sn 114 9 (e_un n_114_9) := u_ldAT f_l0_eq (s_aload (i := .aload_n 0) (len := 1) hq_114 (by decide +kernel) rfl (.inr ⟨0, rfl, rfl, rfl⟩) : e_Sn 114 9 (o_load e_okR 0 10)) t_114_10
noncomputable def n_114_8 : e_Y := u_pop n_114_9
theorem t_114_8 : e_Sn 114 8 (e_un n_114_8) := u_popT (s_pop hq_114 (by decide +kernel) rfl : e_Sn 114 8 (o_pop 9)) t_114_9
noncomputable def n_114_5 : e_Y := u_callS 117 2 21 2 n_117_0 n_114_8
theorem t_114_5 : e_Sn 114 5 (e_un n_114_5) := u_callST rfl (s_callS (index := 118) hq_114 ho_114 hy_117 hp_117 hc_117 hi_117 hd_117 r_m_8_200 hs_117 (by decide +kernel) rfl : e_Sn 114 5 (o_callS 117 2 2 8)) t_117_0 t_114_8
noncomputable def n_114_2 : e_Y := u_getf 19 1 (u_old (o_getf (e_f1 19 1) 5) n_114_5) n_114_5
theorem t_114_2 : e_Sn 114 2 (e_un n_114_2) := u_getfT (s_getf (C := er_19) (T := et_19) (N := 3) (ref := "java/util/ArrayList") (index := 48) (ci := 19) (k := 1) hq_114 ho_114 ⟨rfl, by decide, ei_19, r_m_7_190, .inl rfl⟩ (by decide +kernel) rfl : e_Sn 114 2 (o_getf (e_f1 19 1) 5)) t_114_5
noncomputable def n_114_1 : e_Y := u_ld f_okA f_l0 n_114_2
theorem t_114_1 : e_Sn 114 1 (e_un n_114_1) := u_ldAT f_l0_eq (s_aload (i := .aload_n 0) (len := 1) hq_114 (by decide +kernel) rfl (.inr ⟨0, rfl, rfl, rfl⟩) : e_Sn 114 1 (o_load e_okR 0 2)) t_114_2
noncomputable def n_114_0 : e_Y := u_ld f_okI f_l1 n_114_1
theorem t_114_0 : e_Sn 114 0 (e_un n_114_0) := u_ldIT f_l1_eq (s_iload (i := .iload_n 1) (len := 1) hq_114 (by decide +kernel) rfl (.inr ⟨1, rfl, rfl, rfl⟩) : e_Sn 114 0 (o_load e_okI 1 1)) t_114_1
noncomputable def e_tb_114 : e_X := (e_lf 0 (e_un n_114_0))
theorem e_tk_114 : e_Tb 114 e_tb_114 := (e_lfT t_114_0)
theorem hq_85 : (e_ml[85]?).map (·.2.1) = some prog_20_method_4_code := Eq.trans (congrArg (Option.map (fun e => e.2.1)) hy_85) rfl
theorem ho_85 : (e_ml[85]?).map (·.1.cls) = some "PlateroomprinterModel$Run" := Eq.trans (congrArg (Option.map (fun e => e.1.cls)) hy_85) rfl
theorem hr_85 : (e_ml[85]?).map (·.2.2.2) = some (some .boolean) := Eq.trans (congrArg (Option.map (fun e => e.2.2.2)) hy_85) rfl
noncomputable def n_85_75 : e_Y := u_tab (o_ret e_okZ)
theorem t_85_75 : e_Sn 85 75 (e_un n_85_75) := u_tabT (s_zret hq_85 hr_85 (by decide +kernel) : e_Sn 85 75 (o_ret e_okZ))
noncomputable def n_85_74 : e_Y := u_push (.inl 2147483648) n_85_75
theorem t_85_74 : e_Sn 85 74 (e_un n_85_74) := u_pushT (s_iconst (n := (0)) hq_85 (by decide +kernel) rfl ⟨by decide +kernel, by decide +kernel⟩ : e_Sn 85 74 (o_push (.inl 2147483648) 75)) t_85_75
noncomputable def n_85_71 : e_Y := n_85_75
theorem t_85_71 : e_Sn 85 71 (e_un n_85_71) := u_gotoT (s_goto (off := (4)) hq_85 (by decide +kernel) rfl : e_Sn 85 71 (o_goto 75)) t_85_75
noncomputable def n_85_70 : e_Y := u_push (.inl 2147483649) n_85_71
theorem t_85_70 : e_Sn 85 70 (e_un n_85_70) := u_pushT (s_iconst (n := (1)) hq_85 (by decide +kernel) rfl ⟨by decide +kernel, by decide +kernel⟩ : e_Sn 85 70 (o_push (.inl 2147483649) 71)) t_85_71
noncomputable def n_85_67 : e_Y := u_if y_ne0 (u_old2 (o_ifeq 70 74) 70 n_85_70 n_85_74) n_85_70 n_85_74
theorem t_85_67 : e_Sn 85 67 (e_un n_85_67) := u_ifeqT rfl (s_ifne (off := (7)) hq_85 (by decide +kernel) rfl rfl : e_Sn 85 67 (o_ifeq 70 74)) t_85_70 t_85_74
noncomputable def n_85_64 : e_Y := u_callV 19 113 1 20 1 n_113_0 n_85_67
theorem t_85_64 : e_Sn 85 64 (e_un n_85_64) := u_callVT rfl (s_callV (ci := 19) (C := er_19) (T := et_19) (N := 3) (index := 81) hq_85 ho_85 hy_113 hp_113 hc_113 hi_113 hd_113 r_m_9_115 hs_113 r_m_8_194 rfl (by decide +kernel) rfl : e_Sn 85 64 (o_callV (e_s1 19 113 1) 1 67)) t_113_0 t_85_67
noncomputable def n_85_61 : e_Y := u_getf 16 1 (u_old (o_getf (e_f1 16 1) 64) n_85_64) n_85_64
theorem t_85_61 : e_Sn 85 61 (e_un n_85_61) := u_getfT (s_getf (C := er_16) (T := et_16) (N := 5) (ref := "PlateroomprinterModel$Run") (index := 12) (ci := 16) (k := 1) hq_85 ho_85 ⟨rfl, by decide, ei_16, r_m_9_90, .inl rfl⟩ (by decide +kernel) rfl : e_Sn 85 61 (o_getf (e_f1 16 1) 64)) t_85_64
noncomputable def n_85_60 : e_Y := u_ld f_okA f_l0 n_85_61
theorem t_85_60 : e_Sn 85 60 (e_un n_85_60) := u_ldAT f_l0_eq (s_aload (i := .aload_n 0) (len := 1) hq_85 (by decide +kernel) rfl (.inr ⟨0, rfl, rfl, rfl⟩) : e_Sn 85 60 (o_load e_okR 0 61)) t_85_61
noncomputable def n_85_57 : e_Y := (u_at 0)
theorem t_85_57 : e_Sn 85 57 (e_un n_85_57) := u_gotoT (s_goto (off := (-57)) hq_85 (by decide +kernel) rfl : e_Sn 85 57 (o_goto 0)) u_atT
noncomputable def n_85_56 : e_Y := u_pop n_85_57
theorem t_85_56 : e_Sn 85 56 (e_un n_85_56) := u_popT (s_pop hq_85 (by decide +kernel) rfl : e_Sn 85 56 (o_pop 57)) t_85_57
noncomputable def n_85_53 : e_Y := u_callV 19 114 4 23 2 n_114_0 n_85_56
theorem t_85_53 : e_Sn 85 53 (e_un n_85_53) := u_callVT rfl (s_callV (ci := 19) (C := er_19) (T := et_19) (N := 3) (index := 95) hq_85 ho_85 hy_114 hp_114 hc_114 hi_114 hd_114 r_m_9_192 hs_114 r_m_8_198 rfl (by decide +kernel) rfl : e_Sn 85 53 (o_callV (e_s1 19 114 4) 2 56)) t_114_0 t_85_56
noncomputable def n_85_52 : e_Y := u_bin a_isub (u_old (o_isub 53) n_85_53) n_85_53
theorem t_85_52 : e_Sn 85 52 (e_un n_85_52) := u_isubT (s_isub hq_85 (by decide +kernel) rfl : e_Sn 85 52 (o_isub 53)) t_85_53
noncomputable def n_85_51 : e_Y := u_push (.inl 2147483649) n_85_52
theorem t_85_51 : e_Sn 85 51 (e_un n_85_51) := u_pushT (s_iconst (n := (1)) hq_85 (by decide +kernel) rfl ⟨by decide +kernel, by decide +kernel⟩ : e_Sn 85 51 (o_push (.inl 2147483649) 52)) t_85_52
noncomputable def n_85_48 : e_Y := u_callV 19 116 1 20 1 n_116_0 n_85_51
theorem t_85_48 : e_Sn 85 48 (e_un n_85_48) := u_callVT rfl (s_callV (ci := 19) (C := er_19) (T := et_19) (N := 3) (index := 38) hq_85 ho_85 hy_116 hp_116 hc_116 hi_116 hd_116 r_m_9_120 hs_116 r_m_8_181 rfl (by decide +kernel) rfl : e_Sn 85 48 (o_callV (e_s1 19 116 1) 1 51)) t_116_0 t_85_51
noncomputable def n_85_45 : e_Y := u_getf 16 1 (u_old (o_getf (e_f1 16 1) 48) n_85_48) n_85_48
theorem t_85_45 : e_Sn 85 45 (e_un n_85_45) := u_getfT (s_getf (C := er_16) (T := et_16) (N := 5) (ref := "PlateroomprinterModel$Run") (index := 12) (ci := 16) (k := 1) hq_85 ho_85 ⟨rfl, by decide, ei_16, r_m_9_90, .inl rfl⟩ (by decide +kernel) rfl : e_Sn 85 45 (o_getf (e_f1 16 1) 48)) t_85_48
noncomputable def n_85_44 : e_Y := u_ld f_okA f_l0 n_85_45
theorem t_85_44 : e_Sn 85 44 (e_un n_85_44) := u_ldAT f_l0_eq (s_aload (i := .aload_n 0) (len := 1) hq_85 (by decide +kernel) rfl (.inr ⟨0, rfl, rfl, rfl⟩) : e_Sn 85 44 (o_load e_okR 0 45)) t_85_45
noncomputable def n_85_41 : e_Y := u_getf 16 1 (u_old (o_getf (e_f1 16 1) 44) n_85_44) n_85_44
theorem t_85_41 : e_Sn 85 41 (e_un n_85_41) := u_getfT (s_getf (C := er_16) (T := et_16) (N := 5) (ref := "PlateroomprinterModel$Run") (index := 12) (ci := 16) (k := 1) hq_85 ho_85 ⟨rfl, by decide, ei_16, r_m_9_90, .inl rfl⟩ (by decide +kernel) rfl : e_Sn 85 41 (o_getf (e_f1 16 1) 44)) t_85_44
noncomputable def n_85_40 : e_Y := u_ld f_okA f_l0 n_85_41
theorem t_85_40 : e_Sn 85 40 (e_un n_85_40) := u_ldAT f_l0_eq (s_aload (i := .aload_n 0) (len := 1) hq_85 (by decide +kernel) rfl (.inr ⟨0, rfl, rfl, rfl⟩) : e_Sn 85 40 (o_load e_okR 0 41)) t_85_41
noncomputable def n_85_37 : e_Y := u_if y_ne0 (u_old2 (o_ifeq 40 57) 40 n_85_40 n_85_57) n_85_40 n_85_57
theorem t_85_37 : e_Sn 85 37 (e_un n_85_37) := u_ifeqT rfl (s_ifne (off := (20)) hq_85 (by decide +kernel) rfl rfl : e_Sn 85 37 (o_ifeq 40 57)) t_85_40 t_85_57
noncomputable def n_85_34 : e_Y := u_callV 16 86 2 21 2 n_86_0 n_85_37
theorem t_85_34 : e_Sn 85 34 (e_un n_85_34) := u_callVT rfl (s_callV (ci := 16) (C := er_16) (T := et_16) (N := 5) (index := 91) hq_85 ho_85 hy_86 hp_86 hc_86 hi_86 hd_86 (r_k9 (List.mem_of_getElem? (i := 127) (by decide +kernel))) hs_86 (List.mem_of_getElem? (i := 18) (by decide +kernel)) rfl (by decide +kernel) rfl : e_Sn 85 34 (o_callV (e_s1 16 86 2) 2 37)) t_86_0 t_85_37
noncomputable def n_85_33 : e_Y := u_ld f_okA f_l1 n_85_34
theorem t_85_33 : e_Sn 85 33 (e_un n_85_33) := u_ldAT f_l1_eq (s_aload (i := .aload_n 1) (len := 1) hq_85 (by decide +kernel) rfl (.inr ⟨1, rfl, rfl, rfl⟩) : e_Sn 85 33 (o_load e_okR 1 34)) t_85_34
noncomputable def n_85_32 : e_Y := u_ld f_okA f_l0 n_85_33
theorem t_85_32 : e_Sn 85 32 (e_un n_85_32) := u_ldAT f_l0_eq (s_aload (i := .aload_n 0) (len := 1) hq_85 (by decide +kernel) rfl (.inr ⟨0, rfl, rfl, rfl⟩) : e_Sn 85 32 (o_load e_okR 0 33)) t_85_33
noncomputable def n_85_29 : e_Y := u_if y_ne0 (u_old2 (o_ifeq 40 32) 40 n_85_40 n_85_32) n_85_40 n_85_32
theorem t_85_29 : e_Sn 85 29 (e_un n_85_29) := u_ifeqT rfl (s_ifeq (off := (11)) hq_85 (by decide +kernel) rfl rfl : e_Sn 85 29 (o_ifeq 40 32)) t_85_40 t_85_32
noncomputable def n_85_26 : e_Y := u_getf 15 2 (u_old (o_getf (e_f1 15 2) 29) n_85_29) n_85_29
theorem t_85_26 : e_Sn 85 26 (e_un n_85_26) := u_getfT (s_getf (C := er_15) (T := et_15) (N := 8) (ref := "PlateroomprinterModel$Row") (index := 87) (ci := 15) (k := 2) hq_85 ho_85 ⟨rfl, by decide, ei_15, r_m_9_65, .inl rfl⟩ (by decide +kernel) rfl : e_Sn 85 26 (o_getf (e_f1 15 2) 29)) t_85_29
noncomputable def n_85_25 : e_Y := u_ld f_okA f_l1 n_85_26
theorem t_85_25 : e_Sn 85 25 (e_un n_85_25) := u_ldAT f_l1_eq (s_aload (i := .aload_n 1) (len := 1) hq_85 (by decide +kernel) rfl (.inr ⟨1, rfl, rfl, rfl⟩) : e_Sn 85 25 (o_load e_okR 1 26)) t_85_26
noncomputable def n_85_24 : e_Y := u_st f_okA f_s1 n_85_25
theorem t_85_24 : e_Sn 85 24 (e_un n_85_24) := u_stAT (fun _ _ _ => f_s1_eq) (s_astore (i := .astore_n 1) (len := 1) hq_85 (by decide +kernel) rfl (.inr ⟨1, rfl, rfl, rfl⟩) : e_Sn 85 24 (o_store e_okR 1 25)) t_85_25
noncomputable def n_85_21 : e_Y := u_callV 16 98 1 20 1 n_98_0 n_85_24
theorem t_85_21 : e_Sn 85 21 (e_un n_85_21) := u_callVT rfl (s_callV (ci := 16) (C := er_16) (T := et_16) (N := 5) (index := 53) hq_85 ho_85 hy_98 hp_98 hc_98 hi_98 hd_98 r_m_9_116 hs_98 (List.mem_of_getElem? (i := 17) (by decide +kernel)) rfl (by decide +kernel) rfl : e_Sn 85 21 (o_callV (e_s1 16 98 1) 1 24)) t_98_0 t_85_24
noncomputable def n_85_20 : e_Y := u_ld f_okA f_l0 n_85_21
theorem t_85_20 : e_Sn 85 20 (e_un n_85_20) := u_ldAT f_l0_eq (s_aload (i := .aload_n 0) (len := 1) hq_85 (by decide +kernel) rfl (.inr ⟨0, rfl, rfl, rfl⟩) : e_Sn 85 20 (o_load e_okR 0 21)) t_85_21
noncomputable def n_85_17 : e_Y := u_if y_ne0 (u_old2 (o_ifeq 60 20) 60 n_85_60 n_85_20) n_85_60 n_85_20
theorem t_85_17 : e_Sn 85 17 (e_un n_85_17) := u_ifeqT rfl (s_ifeq (off := (43)) hq_85 (by decide +kernel) rfl rfl : e_Sn 85 17 (o_ifeq 60 20)) t_85_60 t_85_20
noncomputable def n_85_14 : e_Y := u_callV 15 78 1 20 1 n_78_0 n_85_17
theorem t_85_14 : e_Sn 85 14 (e_un n_85_14) := u_callVT rfl (s_callV (ci := 15) (C := er_15) (T := et_15) (N := 8) (index := 84) hq_85 ho_85 hy_78 hp_78 hc_78 hi_78 hd_78 r_m_9_122 hs_78 r_m_9_124 rfl (by decide +kernel) rfl : e_Sn 85 14 (o_callV (e_s1 15 78 1) 1 17)) t_78_0 t_85_17
noncomputable def n_85_11 : e_Y := u_callV 16 98 1 20 1 n_98_0 n_85_14
theorem t_85_11 : e_Sn 85 11 (e_un n_85_11) := u_callVT rfl (s_callV (ci := 16) (C := er_16) (T := et_16) (N := 5) (index := 53) hq_85 ho_85 hy_98 hp_98 hc_98 hi_98 hd_98 r_m_9_116 hs_98 (List.mem_of_getElem? (i := 17) (by decide +kernel)) rfl (by decide +kernel) rfl : e_Sn 85 11 (o_callV (e_s1 16 98 1) 1 14)) t_98_0 t_85_14
noncomputable def n_85_10 : e_Y := u_ld f_okA f_l0 n_85_11
theorem t_85_10 : e_Sn 85 10 (e_un n_85_10) := u_ldAT f_l0_eq (s_aload (i := .aload_n 0) (len := 1) hq_85 (by decide +kernel) rfl (.inr ⟨0, rfl, rfl, rfl⟩) : e_Sn 85 10 (o_load e_okR 0 11)) t_85_11
noncomputable def n_85_7 : e_Y := u_if y_ne0 (u_old2 (o_ifeq 10 60) 10 n_85_10 n_85_60) n_85_10 n_85_60
theorem t_85_7 : e_Sn 85 7 (e_un n_85_7) := u_ifeqT rfl (s_ifne (off := (53)) hq_85 (by decide +kernel) rfl rfl : e_Sn 85 7 (o_ifeq 10 60)) t_85_10 t_85_60
noncomputable def n_85_4 : e_Y := u_callV 19 113 1 20 1 n_113_0 n_85_7
theorem t_85_4 : e_Sn 85 4 (e_un n_85_4) := u_callVT rfl (s_callV (ci := 19) (C := er_19) (T := et_19) (N := 3) (index := 81) hq_85 ho_85 hy_113 hp_113 hc_113 hi_113 hd_113 r_m_9_115 hs_113 r_m_8_194 rfl (by decide +kernel) rfl : e_Sn 85 4 (o_callV (e_s1 19 113 1) 1 7)) t_113_0 t_85_7
noncomputable def n_85_1 : e_Y := u_getf 16 1 (u_old (o_getf (e_f1 16 1) 4) n_85_4) n_85_4
theorem t_85_1 : e_Sn 85 1 (e_un n_85_1) := u_getfT (s_getf (C := er_16) (T := et_16) (N := 5) (ref := "PlateroomprinterModel$Run") (index := 12) (ci := 16) (k := 1) hq_85 ho_85 ⟨rfl, by decide, ei_16, r_m_9_90, .inl rfl⟩ (by decide +kernel) rfl : e_Sn 85 1 (o_getf (e_f1 16 1) 4)) t_85_4
noncomputable def n_85_0 : e_Y := u_ld f_okA f_l0 n_85_1
theorem t_85_0 : e_Sn 85 0 (e_un n_85_0) := u_ldAT f_l0_eq (s_aload (i := .aload_n 0) (len := 1) hq_85 (by decide +kernel) rfl (.inr ⟨0, rfl, rfl, rfl⟩) : e_Sn 85 0 (o_load e_okR 0 1)) t_85_1
noncomputable def e_tb_85 : e_X := (e_lf 0 (e_un n_85_0))
theorem e_tk_85 : e_Tb 85 e_tb_85 := (e_lfT t_85_0)
theorem hq_84 : (e_ml[84]?).map (·.2.1) = some prog_20_method_7_code := Eq.trans (congrArg (Option.map (fun e => e.2.1)) hy_84) rfl
theorem ho_84 : (e_ml[84]?).map (·.1.cls) = some "PlateroomprinterModel$Run" := Eq.trans (congrArg (Option.map (fun e => e.1.cls)) hy_84) rfl
theorem hr_84 : (e_ml[84]?).map (·.2.2.2) = some none := Eq.trans (congrArg (Option.map (fun e => e.2.2.2)) hy_84) rfl
noncomputable def n_84_31 : e_Y := u_retV
theorem t_84_31 : e_Sn 84 31 (e_un n_84_31) := u_retVT (s_vret hq_84 hr_84 (by decide +kernel) : e_Sn 84 31 (o_retv))
noncomputable def n_84_30 : e_Y := u_pop n_84_31
theorem t_84_30 : e_Sn 84 30 (e_un n_84_30) := u_popT (s_pop hq_84 (by decide +kernel) rfl : e_Sn 84 30 (o_pop 31)) t_84_31
noncomputable def n_84_27 : e_Y := u_callV 19 106 2 21 2 n_106_0 n_84_30
theorem t_84_27 : e_Sn 84 27 (e_un n_84_27) := u_callVT rfl (s_callV (ci := 19) (C := er_19) (T := et_19) (N := 3) (index := 34) hq_84 ho_84 hy_106 hp_106 hc_106 hi_106 hd_106 r_m_9_88 hs_106 r_m_8_5 rfl (by decide +kernel) rfl : e_Sn 84 27 (o_callV (e_s1 19 106 2) 2 30)) t_106_0 t_84_30
noncomputable def n_84_26 : e_Y := u_ld f_okA f_l1 n_84_27
theorem t_84_26 : e_Sn 84 26 (e_un n_84_26) := u_ldAT f_l1_eq (s_aload (i := .aload_n 1) (len := 1) hq_84 (by decide +kernel) rfl (.inr ⟨1, rfl, rfl, rfl⟩) : e_Sn 84 26 (o_load e_okR 1 27)) t_84_27
noncomputable def n_84_23 : e_Y := u_getf 16 1 (u_old (o_getf (e_f1 16 1) 26) n_84_26) n_84_26
theorem t_84_23 : e_Sn 84 23 (e_un n_84_23) := u_getfT (s_getf (C := er_16) (T := et_16) (N := 5) (ref := "PlateroomprinterModel$Run") (index := 12) (ci := 16) (k := 1) hq_84 ho_84 ⟨rfl, by decide, ei_16, r_m_9_90, .inl rfl⟩ (by decide +kernel) rfl : e_Sn 84 23 (o_getf (e_f1 16 1) 26)) t_84_26
noncomputable def n_84_22 : e_Y := u_ld f_okA f_l0 n_84_23
theorem t_84_22 : e_Sn 84 22 (e_un n_84_22) := u_ldAT f_l0_eq (s_aload (i := .aload_n 0) (len := 1) hq_84 (by decide +kernel) rfl (.inr ⟨0, rfl, rfl, rfl⟩) : e_Sn 84 22 (o_load e_okR 0 23)) t_84_23
noncomputable def n_84_19 : e_Y := u_callS 68 2 21 2 n_68_0 n_84_22
theorem t_84_19 : e_Sn 84 19 (e_un n_84_19) := u_callST rfl (s_callSN (host := "PlateroomprinterModel") (index := 73) hq_84 ho_84 hy_68 hp_68 hc_68 hi_68 hd_68 r_m_9_142 hs_68 (by decide +kernel) rfl : e_Sn 84 19 (o_callS 68 2 2 22)) t_68_0 t_84_22
noncomputable def n_84_17 : e_Y := u_push (.inl 2147483655) n_84_19
theorem t_84_17 : e_Sn 84 17 (e_un n_84_17) := u_pushT (s_bipush (n := (7)) hq_84 (by decide +kernel) rfl ⟨by decide +kernel, by decide +kernel⟩ : e_Sn 84 17 (o_push (.inl 2147483655) 19)) t_84_19
noncomputable def n_84_13 : e_Y := n_84_17
theorem t_84_13 : e_Sn 84 13 (e_un n_84_13) := u_gotoT (s_goto (off := (4)) hq_84 (by decide +kernel) rfl : e_Sn 84 13 (o_goto 17)) t_84_17
noncomputable def n_84_12 : e_Y := u_push (.inl 2147483649) n_84_13
theorem t_84_12 : e_Sn 84 12 (e_un n_84_12) := u_pushT (s_iconst (n := (1)) hq_84 (by decide +kernel) rfl ⟨by decide +kernel, by decide +kernel⟩ : e_Sn 84 12 (o_push (.inl 2147483649) 13)) t_84_13
noncomputable def n_84_9 : e_Y := u_jmp y_ge (u_old2 (o_clt 12 16) 12 n_84_12 (u_at 16)) n_84_12 (u_at 16)
theorem t_84_9 : e_Sn 84 9 (e_un n_84_9) := u_cltT rfl (s_cge (off := (7)) hq_84 (by decide +kernel) rfl rfl : e_Sn 84 9 (o_clt 12 16)) t_84_12 u_atT
noncomputable def n_84_7 : e_Y := u_push (.inl 2147483660) n_84_9
theorem t_84_7 : e_Sn 84 7 (e_un n_84_7) := u_pushT (s_bipush (n := (12)) hq_84 (by decide +kernel) rfl ⟨by decide +kernel, by decide +kernel⟩ : e_Sn 84 7 (o_push (.inl 2147483660) 9)) t_84_9
noncomputable def n_84_4 : e_Y := u_callV 19 116 1 20 1 n_116_0 n_84_7
theorem t_84_4 : e_Sn 84 4 (e_un n_84_4) := u_callVT rfl (s_callV (ci := 19) (C := er_19) (T := et_19) (N := 3) (index := 38) hq_84 ho_84 hy_116 hp_116 hc_116 hi_116 hd_116 r_m_9_120 hs_116 r_m_8_181 rfl (by decide +kernel) rfl : e_Sn 84 4 (o_callV (e_s1 19 116 1) 1 7)) t_116_0 t_84_7
noncomputable def n_84_1 : e_Y := u_getf 16 1 (u_old (o_getf (e_f1 16 1) 4) n_84_4) n_84_4
theorem t_84_1 : e_Sn 84 1 (e_un n_84_1) := u_getfT (s_getf (C := er_16) (T := et_16) (N := 5) (ref := "PlateroomprinterModel$Run") (index := 12) (ci := 16) (k := 1) hq_84 ho_84 ⟨rfl, by decide, ei_16, r_m_9_90, .inl rfl⟩ (by decide +kernel) rfl : e_Sn 84 1 (o_getf (e_f1 16 1) 4)) t_84_4
noncomputable def n_84_0 : e_Y := u_ld f_okA f_l0 n_84_1
theorem t_84_0 : e_Sn 84 0 (e_un n_84_0) := u_ldAT f_l0_eq (s_aload (i := .aload_n 0) (len := 1) hq_84 (by decide +kernel) rfl (.inr ⟨0, rfl, rfl, rfl⟩) : e_Sn 84 0 (o_load e_okR 0 1)) t_84_1
noncomputable def e_tb_84 : e_X := (e_lf 0 (e_un n_84_0))
theorem e_tk_84 : e_Tb 84 e_tb_84 := (e_lfT t_84_0)
theorem hq_82 : (e_ml[82]?).map (·.2.1) = some prog_20_method_20_code := Eq.trans (congrArg (Option.map (fun e => e.2.1)) hy_82) rfl
theorem ho_82 : (e_ml[82]?).map (·.1.cls) = some "PlateroomprinterModel$Run" := Eq.trans (congrArg (Option.map (fun e => e.1.cls)) hy_82) rfl
theorem hr_82 : (e_ml[82]?).map (·.2.2.2) = some none := Eq.trans (congrArg (Option.map (fun e => e.2.2.2)) hy_82) rfl
noncomputable def n_82_69 : e_Y := u_retV
theorem t_82_69 : e_Sn 82 69 (e_un n_82_69) := u_retVT (s_vret hq_82 hr_82 (by decide +kernel) : e_Sn 82 69 (o_retv))
noncomputable def n_82_66 : e_Y := u_callV 16 95 2 21 2 n_95_0 n_82_69
theorem t_82_66 : e_Sn 82 66 (e_un n_82_66) := u_callVT rfl (s_callV (ci := 16) (C := er_16) (T := et_16) (N := 5) (index := 114) hq_82 ho_82 hy_95 hp_95 hc_95 hi_95 hd_95 r_m_9_131 hs_95 (List.mem_of_getElem? (i := 19) (by decide +kernel)) rfl (by decide +kernel) rfl : e_Sn 82 66 (o_callV (e_s1 16 95 2) 2 69)) t_95_0 t_82_69
noncomputable def n_82_65 : e_Y := u_ld f_okA f_l1 n_82_66
theorem t_82_65 : e_Sn 82 65 (e_un n_82_65) := u_ldAT f_l1_eq (s_aload (i := .aload_n 1) (len := 1) hq_82 (by decide +kernel) rfl (.inr ⟨1, rfl, rfl, rfl⟩) : e_Sn 82 65 (o_load e_okR 1 66)) t_82_66
noncomputable def n_82_64 : e_Y := u_ld f_okA f_l0 n_82_65
theorem t_82_64 : e_Sn 82 64 (e_un n_82_64) := u_ldAT f_l0_eq (s_aload (i := .aload_n 0) (len := 1) hq_82 (by decide +kernel) rfl (.inr ⟨0, rfl, rfl, rfl⟩) : e_Sn 82 64 (o_load e_okR 0 65)) t_82_65
noncomputable def n_82_61 : e_Y := u_callV 16 84 2 21 2 n_84_0 n_82_64
theorem t_82_61 : e_Sn 82 61 (e_un n_82_61) := u_callVT rfl (s_callV (ci := 16) (C := er_16) (T := et_16) (N := 5) (index := 182) hq_82 ho_82 hy_84 hp_84 hc_84 hi_84 hd_84 (r_k9 (List.mem_of_getElem? (i := 226) (by decide +kernel))) hs_84 (List.mem_of_getElem? (i := 28) (by decide +kernel)) rfl (by decide +kernel) rfl : e_Sn 82 61 (o_callV (e_s1 16 84 2) 2 64)) t_84_0 t_82_64
noncomputable def n_82_60 : e_Y := u_ld f_okA f_l1 n_82_61
theorem t_82_60 : e_Sn 82 60 (e_un n_82_60) := u_ldAT f_l1_eq (s_aload (i := .aload_n 1) (len := 1) hq_82 (by decide +kernel) rfl (.inr ⟨1, rfl, rfl, rfl⟩) : e_Sn 82 60 (o_load e_okR 1 61)) t_82_61
noncomputable def n_82_59 : e_Y := u_ld f_okA f_l0 n_82_60
theorem t_82_59 : e_Sn 82 59 (e_un n_82_59) := u_ldAT f_l0_eq (s_aload (i := .aload_n 0) (len := 1) hq_82 (by decide +kernel) rfl (.inr ⟨0, rfl, rfl, rfl⟩) : e_Sn 82 59 (o_load e_okR 0 60)) t_82_60
noncomputable def n_82_55 : e_Y := u_if y_ne0 (u_old2 (o_ifeq 58 59) 58 (u_at 58) n_82_59) (u_at 58) n_82_59
theorem t_82_55 : e_Sn 82 55 (e_un n_82_55) := u_ifeqT rfl (s_ifne (off := (4)) hq_82 (by decide +kernel) rfl rfl : e_Sn 82 55 (o_ifeq 58 59)) u_atT t_82_59
noncomputable def n_82_52 : e_Y := u_getf 15 3 (u_old (o_getf (e_f1 15 3) 55) n_82_55) n_82_55
theorem t_82_52 : e_Sn 82 52 (e_un n_82_52) := u_getfT (s_getf (C := er_15) (T := et_15) (N := 8) (ref := "PlateroomprinterModel$Row") (index := 111) (ci := 15) (k := 3) hq_82 ho_82 ⟨rfl, by decide, ei_15, r_m_9_66, .inl rfl⟩ (by decide +kernel) rfl : e_Sn 82 52 (o_getf (e_f1 15 3) 55)) t_82_55
noncomputable def n_82_51 : e_Y := u_ld f_okA f_l1 n_82_52
theorem t_82_51 : e_Sn 82 51 (e_un n_82_51) := u_ldAT f_l1_eq (s_aload (i := .aload_n 1) (len := 1) hq_82 (by decide +kernel) rfl (.inr ⟨1, rfl, rfl, rfl⟩) : e_Sn 82 51 (o_load e_okR 1 52)) t_82_52
noncomputable def n_82_9 : e_Y := u_if y_ne0 (u_old2 (o_ifeq 51 12) 51 n_82_51 (u_at 12)) n_82_51 (u_at 12)
theorem t_82_9 : e_Sn 82 9 (e_un n_82_9) := u_ifeqT rfl (s_ifeq (off := (42)) hq_82 (by decide +kernel) rfl rfl : e_Sn 82 9 (o_ifeq 51 12)) t_82_51 u_atT
noncomputable def n_82_6 : e_Y := u_getf 15 4 (u_old (o_getf (e_f1 15 4) 9) n_82_9) n_82_9
theorem t_82_6 : e_Sn 82 6 (e_un n_82_6) := u_getfT (s_getf (C := er_15) (T := et_15) (N := 8) (ref := "PlateroomprinterModel$Row") (index := 98) (ci := 15) (k := 4) hq_82 ho_82 ⟨rfl, by decide, ei_15, r_m_9_67, .inl rfl⟩ (by decide +kernel) rfl : e_Sn 82 6 (o_getf (e_f1 15 4) 9)) t_82_9
noncomputable def n_82_5 : e_Y := u_ld f_okA f_l1 n_82_6
theorem t_82_5 : e_Sn 82 5 (e_un n_82_5) := u_ldAT f_l1_eq (s_aload (i := .aload_n 1) (len := 1) hq_82 (by decide +kernel) rfl (.inr ⟨1, rfl, rfl, rfl⟩) : e_Sn 82 5 (o_load e_okR 1 6)) t_82_6
noncomputable def n_82_2 : e_Y := u_old (o_putf (e_f1 15 2) e_okZ 5) n_82_5
theorem t_82_2 : e_Sn 82 2 (e_un n_82_2) := u_oldT (s_putf (ty0 := ey_15) (ok := e_okZ) (C := er_15) (T := et_15) (N := 8) (ref := "PlateroomprinterModel$Row") (index := 87) (ci := 15) (k := 2) hq_82 ho_82 ⟨rfl, by decide, ei_15, r_m_9_65, .inl rfl⟩ eo_15 en_15 e_oksZ (.inl rfl) (by decide +kernel) rfl : e_Sn 82 2 (o_putf (e_f1 15 2) e_okZ 5)) t_82_5 (e_cg_putf (e_f1 15 2) e_okZ)
noncomputable def n_82_1 : e_Y := u_push (.inl 2147483649) n_82_2
theorem t_82_1 : e_Sn 82 1 (e_un n_82_1) := u_pushT (s_iconst (n := (1)) hq_82 (by decide +kernel) rfl ⟨by decide +kernel, by decide +kernel⟩ : e_Sn 82 1 (o_push (.inl 2147483649) 2)) t_82_2
noncomputable def n_82_0 : e_Y := u_ld f_okA f_l1 n_82_1
theorem t_82_0 : e_Sn 82 0 (e_un n_82_0) := u_ldAT f_l1_eq (s_aload (i := .aload_n 1) (len := 1) hq_82 (by decide +kernel) rfl (.inr ⟨1, rfl, rfl, rfl⟩) : e_Sn 82 0 (o_load e_okR 1 1)) t_82_1
noncomputable def e_tb_82 : e_X := (e_lf 0 (e_un n_82_0))
theorem e_tk_82 : e_Tb 82 e_tb_82 := (e_lfT t_82_0)
theorem hq_81 : (e_ml[81]?).map (·.2.1) = some prog_20_method_10_code := Eq.trans (congrArg (Option.map (fun e => e.2.1)) hy_81) rfl
theorem ho_81 : (e_ml[81]?).map (·.1.cls) = some "PlateroomprinterModel$Run" := Eq.trans (congrArg (Option.map (fun e => e.1.cls)) hy_81) rfl
theorem hr_81 : (e_ml[81]?).map (·.2.2.2) = some (some (.object "PlateroomprinterModel$Item")) := Eq.trans (congrArg (Option.map (fun e => e.2.2.2)) hy_81) rfl
noncomputable def n_81_47 : e_Y := u_retA
theorem t_81_47 : e_Sn 81 47 (e_un n_81_47) := u_retAT (s_aret (.inl ⟨_, rfl⟩) hq_81 hr_81 (by decide +kernel) : e_Sn 81 47 (o_ret e_okR))
noncomputable def n_81_44 : e_Y := u_old (o_cast 13 47) n_81_47
theorem t_81_44 : e_Sn 81 44 (e_un n_81_44) := u_oldT (s_cast (index := 133) hq_81 ho_81 r_m_9_169 (.inl ⟨by decide, rfl⟩) (by decide +kernel) rfl : e_Sn 81 44 (o_cast 13 47)) t_81_47 (e_cg_cast 13)
noncomputable def n_81_41 : e_Y := u_callV 19 114 4 23 2 n_114_0 n_81_44
theorem t_81_41 : e_Sn 81 41 (e_un n_81_41) := u_callVT rfl (s_callV (ci := 19) (C := er_19) (T := et_19) (N := 3) (index := 95) hq_81 ho_81 hy_114 hp_114 hc_114 hi_114 hd_114 r_m_9_192 hs_114 r_m_8_198 rfl (by decide +kernel) rfl : e_Sn 81 41 (o_callV (e_s1 19 114 4) 2 44)) t_114_0 t_81_44
noncomputable def n_81_40 : e_Y := u_bin a_isub (u_old (o_isub 41) n_81_41) n_81_41
theorem t_81_40 : e_Sn 81 40 (e_un n_81_40) := u_isubT (s_isub hq_81 (by decide +kernel) rfl : e_Sn 81 40 (o_isub 41)) t_81_41
noncomputable def n_81_39 : e_Y := u_push (.inl 2147483649) n_81_40
theorem t_81_39 : e_Sn 81 39 (e_un n_81_39) := u_pushT (s_iconst (n := (1)) hq_81 (by decide +kernel) rfl ⟨by decide +kernel, by decide +kernel⟩ : e_Sn 81 39 (o_push (.inl 2147483649) 40)) t_81_40
noncomputable def n_81_36 : e_Y := u_callV 19 116 1 20 1 n_116_0 n_81_39
theorem t_81_36 : e_Sn 81 36 (e_un n_81_36) := u_callVT rfl (s_callV (ci := 19) (C := er_19) (T := et_19) (N := 3) (index := 38) hq_81 ho_81 hy_116 hp_116 hc_116 hi_116 hd_116 r_m_9_120 hs_116 r_m_8_181 rfl (by decide +kernel) rfl : e_Sn 81 36 (o_callV (e_s1 19 116 1) 1 39)) t_116_0 t_81_39
noncomputable def n_81_33 : e_Y := u_getf 14 0 (u_old (o_getf (e_f1 14 0) 36) n_81_36) n_81_36
theorem t_81_33 : e_Sn 81 33 (e_un n_81_33) := u_getfT (s_getf (C := er_14) (T := et_14) (N := 13) (ref := "PlateroomprinterModel$Machine") (index := 122) (ci := 14) (k := 0) hq_81 ho_81 ⟨rfl, by decide, ei_14, r_m_8_74, .inl rfl⟩ (by decide +kernel) rfl : e_Sn 81 33 (o_getf (e_f1 14 0) 36)) t_81_36
noncomputable def n_81_30 : e_Y := u_getf 16 0 (u_old (o_getf (e_f1 16 0) 33) n_81_33) n_81_33
theorem t_81_30 : e_Sn 81 30 (e_un n_81_30) := u_getfT (s_getf (C := er_16) (T := et_16) (N := 5) (ref := "PlateroomprinterModel$Run") (index := 25) (ci := 16) (k := 0) hq_81 ho_81 ⟨rfl, by decide, ei_16, r_m_9_89, .inl rfl⟩ (by decide +kernel) rfl : e_Sn 81 30 (o_getf (e_f1 16 0) 33)) t_81_33
noncomputable def n_81_29 : e_Y := u_ld f_okA f_l0 n_81_30
theorem t_81_29 : e_Sn 81 29 (e_un n_81_29) := u_ldAT f_l0_eq (s_aload (i := .aload_n 0) (len := 1) hq_81 (by decide +kernel) rfl (.inr ⟨0, rfl, rfl, rfl⟩) : e_Sn 81 29 (o_load e_okR 0 30)) t_81_30
noncomputable def n_81_26 : e_Y := u_getf 14 0 (u_old (o_getf (e_f1 14 0) 29) n_81_29) n_81_29
theorem t_81_26 : e_Sn 81 26 (e_un n_81_26) := u_getfT (s_getf (C := er_14) (T := et_14) (N := 13) (ref := "PlateroomprinterModel$Machine") (index := 122) (ci := 14) (k := 0) hq_81 ho_81 ⟨rfl, by decide, ei_14, r_m_8_74, .inl rfl⟩ (by decide +kernel) rfl : e_Sn 81 26 (o_getf (e_f1 14 0) 29)) t_81_29
noncomputable def n_81_23 : e_Y := u_getf 16 0 (u_old (o_getf (e_f1 16 0) 26) n_81_26) n_81_26
theorem t_81_23 : e_Sn 81 23 (e_un n_81_23) := u_getfT (s_getf (C := er_16) (T := et_16) (N := 5) (ref := "PlateroomprinterModel$Run") (index := 25) (ci := 16) (k := 0) hq_81 ho_81 ⟨rfl, by decide, ei_16, r_m_9_89, .inl rfl⟩ (by decide +kernel) rfl : e_Sn 81 23 (o_getf (e_f1 16 0) 26)) t_81_26
noncomputable def n_81_22 : e_Y := u_ld f_okA f_l0 n_81_23
theorem t_81_22 : e_Sn 81 22 (e_un n_81_22) := u_ldAT f_l0_eq (s_aload (i := .aload_n 0) (len := 1) hq_81 (by decide +kernel) rfl (.inr ⟨0, rfl, rfl, rfl⟩) : e_Sn 81 22 (o_load e_okR 0 23)) t_81_23
noncomputable def n_81_19 : e_Y := u_callS 68 2 21 2 n_68_0 n_81_22
theorem t_81_19 : e_Sn 81 19 (e_un n_81_19) := u_callST rfl (s_callSN (host := "PlateroomprinterModel") (index := 73) hq_81 ho_81 hy_68 hp_68 hc_68 hi_68 hd_68 r_m_9_142 hs_68 (by decide +kernel) rfl : e_Sn 81 19 (o_callS 68 2 2 22)) t_68_0 t_81_22
noncomputable def n_81_18 : e_Y := u_push (.inl 2147483649) n_81_19
theorem t_81_18 : e_Sn 81 18 (e_un n_81_18) := u_pushT (s_iconst (n := (1)) hq_81 (by decide +kernel) rfl ⟨by decide +kernel, by decide +kernel⟩ : e_Sn 81 18 (o_push (.inl 2147483649) 19)) t_81_19
noncomputable def n_81_14 : e_Y := n_81_18
theorem t_81_14 : e_Sn 81 14 (e_un n_81_14) := u_gotoT (s_goto (off := (4)) hq_81 (by decide +kernel) rfl : e_Sn 81 14 (o_goto 18)) t_81_18
noncomputable def n_81_13 : e_Y := u_push (.inl 2147483649) n_81_14
theorem t_81_13 : e_Sn 81 13 (e_un n_81_13) := u_pushT (s_iconst (n := (1)) hq_81 (by decide +kernel) rfl ⟨by decide +kernel, by decide +kernel⟩ : e_Sn 81 13 (o_push (.inl 2147483649) 14)) t_81_14
noncomputable def n_81_10 : e_Y := u_if y_ne0 (u_old2 (o_ifeq 13 17) 13 n_81_13 (u_at 17)) n_81_13 (u_at 17)
theorem t_81_10 : e_Sn 81 10 (e_un n_81_10) := u_ifeqT rfl (s_ifne (off := (7)) hq_81 (by decide +kernel) rfl rfl : e_Sn 81 10 (o_ifeq 13 17)) t_81_13 u_atT
noncomputable def n_81_7 : e_Y := u_callV 19 113 1 20 1 n_113_0 n_81_10
theorem t_81_7 : e_Sn 81 7 (e_un n_81_7) := u_callVT rfl (s_callV (ci := 19) (C := er_19) (T := et_19) (N := 3) (index := 81) hq_81 ho_81 hy_113 hp_113 hc_113 hi_113 hd_113 r_m_9_115 hs_113 r_m_8_194 rfl (by decide +kernel) rfl : e_Sn 81 7 (o_callV (e_s1 19 113 1) 1 10)) t_113_0 t_81_10
noncomputable def n_81_4 : e_Y := u_getf 14 0 (u_old (o_getf (e_f1 14 0) 7) n_81_7) n_81_7
theorem t_81_4 : e_Sn 81 4 (e_un n_81_4) := u_getfT (s_getf (C := er_14) (T := et_14) (N := 13) (ref := "PlateroomprinterModel$Machine") (index := 122) (ci := 14) (k := 0) hq_81 ho_81 ⟨rfl, by decide, ei_14, r_m_8_74, .inl rfl⟩ (by decide +kernel) rfl : e_Sn 81 4 (o_getf (e_f1 14 0) 7)) t_81_7
noncomputable def n_81_1 : e_Y := u_getf 16 0 (u_old (o_getf (e_f1 16 0) 4) n_81_4) n_81_4
theorem t_81_1 : e_Sn 81 1 (e_un n_81_1) := u_getfT (s_getf (C := er_16) (T := et_16) (N := 5) (ref := "PlateroomprinterModel$Run") (index := 25) (ci := 16) (k := 0) hq_81 ho_81 ⟨rfl, by decide, ei_16, r_m_9_89, .inl rfl⟩ (by decide +kernel) rfl : e_Sn 81 1 (o_getf (e_f1 16 0) 4)) t_81_4
noncomputable def n_81_0 : e_Y := u_ld f_okA f_l0 n_81_1
theorem t_81_0 : e_Sn 81 0 (e_un n_81_0) := u_ldAT f_l0_eq (s_aload (i := .aload_n 0) (len := 1) hq_81 (by decide +kernel) rfl (.inr ⟨0, rfl, rfl, rfl⟩) : e_Sn 81 0 (o_load e_okR 0 1)) t_81_1
noncomputable def e_tb_81 : e_X := (e_lf 0 (e_un n_81_0))
theorem e_tk_81 : e_Tb 81 e_tb_81 := (e_lfT t_81_0)
theorem hq_96 : (e_ml[96]?).map (·.2.1) = some prog_20_method_11_code := Eq.trans (congrArg (Option.map (fun e => e.2.1)) hy_96) rfl
theorem ho_96 : (e_ml[96]?).map (·.1.cls) = some "PlateroomprinterModel$Run" := Eq.trans (congrArg (Option.map (fun e => e.1.cls)) hy_96) rfl
theorem hr_96 : (e_ml[96]?).map (·.2.2.2) = some (some (.object "PlateroomprinterModel$Item")) := Eq.trans (congrArg (Option.map (fun e => e.2.2.2)) hy_96) rfl
noncomputable def n_96_23 : e_Y := u_retA
theorem t_96_23 : e_Sn 96 23 (e_un n_96_23) := u_retAT (s_aret (.inl ⟨_, rfl⟩) hq_96 hr_96 (by decide +kernel) : e_Sn 96 23 (o_ret e_okR))
noncomputable def n_96_22 : e_Y := u_ld f_okA f_l2 n_96_23
theorem t_96_22 : e_Sn 96 22 (e_un n_96_22) := u_ldAT f_l2_eq (s_aload (i := .aload_n 2) (len := 1) hq_96 (by decide +kernel) rfl (.inr ⟨2, rfl, rfl, rfl⟩) : e_Sn 96 22 (o_load e_okR 2 23)) t_96_23
noncomputable def n_96_19 : e_Y := u_callS 68 2 21 2 n_68_0 n_96_22
theorem t_96_19 : e_Sn 96 19 (e_un n_96_19) := u_callST rfl (s_callSN (host := "PlateroomprinterModel") (index := 73) hq_96 ho_96 hy_68 hp_68 hc_68 hi_68 hd_68 r_m_9_142 hs_68 (by decide +kernel) rfl : e_Sn 96 19 (o_callS 68 2 2 22)) t_68_0 t_96_22
noncomputable def n_96_18 : e_Y := u_push (.inl 2147483650) n_96_19
theorem t_96_18 : e_Sn 96 18 (e_un n_96_18) := u_pushT (s_iconst (n := (2)) hq_96 (by decide +kernel) rfl ⟨by decide +kernel, by decide +kernel⟩ : e_Sn 96 18 (o_push (.inl 2147483650) 19)) t_96_19
noncomputable def n_96_14 : e_Y := n_96_18
theorem t_96_14 : e_Sn 96 14 (e_un n_96_14) := u_gotoT (s_goto (off := (4)) hq_96 (by decide +kernel) rfl : e_Sn 96 14 (o_goto 18)) t_96_18
noncomputable def n_96_13 : e_Y := u_push (.inl 2147483649) n_96_14
theorem t_96_13 : e_Sn 96 13 (e_un n_96_13) := u_pushT (s_iconst (n := (1)) hq_96 (by decide +kernel) rfl ⟨by decide +kernel, by decide +kernel⟩ : e_Sn 96 13 (o_push (.inl 2147483649) 14)) t_96_14
noncomputable def n_96_10 : e_Y := u_jmp y_ne (u_old2 (o_ceq 13 17) 13 n_96_13 (u_at 17)) n_96_13 (u_at 17)
theorem t_96_10 : e_Sn 96 10 (e_un n_96_10) := u_ceqT rfl (s_cne (off := (7)) hq_96 (by decide +kernel) rfl rfl : e_Sn 96 10 (o_ceq 13 17)) t_96_13 u_atT
noncomputable def n_96_9 : e_Y := u_ld f_okI f_l1 n_96_10
theorem t_96_9 : e_Sn 96 9 (e_un n_96_9) := u_ldIT f_l1_eq (s_iload (i := .iload_n 1) (len := 1) hq_96 (by decide +kernel) rfl (.inr ⟨1, rfl, rfl, rfl⟩) : e_Sn 96 9 (o_load e_okI 1 10)) t_96_10
noncomputable def n_96_6 : e_Y := u_getf 13 0 (u_old (o_getf (e_f1 13 0) 9) n_96_9) n_96_9
theorem t_96_6 : e_Sn 96 6 (e_un n_96_6) := u_getfT (s_getf (C := er_13) (T := et_13) (N := 3) (ref := "PlateroomprinterModel$Item") (index := 146) (ci := 13) (k := 0) hq_96 ho_96 ⟨rfl, by decide, ei_13, (r_k9 (List.mem_of_getElem? (i := 176) (by decide +kernel))), .inl rfl⟩ (by decide +kernel) rfl : e_Sn 96 6 (o_getf (e_f1 13 0) 9)) t_96_9
noncomputable def n_96_5 : e_Y := u_ld f_okA f_l2 n_96_6
theorem t_96_5 : e_Sn 96 5 (e_un n_96_5) := u_ldAT f_l2_eq (s_aload (i := .aload_n 2) (len := 1) hq_96 (by decide +kernel) rfl (.inr ⟨2, rfl, rfl, rfl⟩) : e_Sn 96 5 (o_load e_okR 2 6)) t_96_6
noncomputable def n_96_4 : e_Y := u_st f_okA f_s2 n_96_5
theorem t_96_4 : e_Sn 96 4 (e_un n_96_4) := u_stAT (fun _ _ _ => f_s2_eq) (s_astore (i := .astore_n 2) (len := 1) hq_96 (by decide +kernel) rfl (.inr ⟨2, rfl, rfl, rfl⟩) : e_Sn 96 4 (o_store e_okR 2 5)) t_96_5
noncomputable def n_96_1 : e_Y := u_callV 16 81 1 20 1 n_81_0 n_96_4
theorem t_96_1 : e_Sn 96 1 (e_un n_96_1) := u_callVT rfl (s_callV (ci := 16) (C := er_16) (T := et_16) (N := 5) (index := 142) hq_96 ho_96 hy_81 hp_81 hc_81 hi_81 hd_81 (r_k9 (List.mem_of_getElem? (i := 214) (by decide +kernel))) hs_81 (List.mem_of_getElem? (i := 26) (by decide +kernel)) rfl (by decide +kernel) rfl : e_Sn 96 1 (o_callV (e_s1 16 81 1) 1 4)) t_81_0 t_96_4
noncomputable def n_96_0 : e_Y := u_ld f_okA f_l0 n_96_1
theorem t_96_0 : e_Sn 96 0 (e_un n_96_0) := u_ldAT f_l0_eq (s_aload (i := .aload_n 0) (len := 1) hq_96 (by decide +kernel) rfl (.inr ⟨0, rfl, rfl, rfl⟩) : e_Sn 96 0 (o_load e_okR 0 1)) t_96_1
noncomputable def e_tb_96 : e_X := (e_lf 0 (e_un n_96_0))
theorem e_tk_96 : e_Tb 96 e_tb_96 := (e_lfT t_96_0)
end SN
