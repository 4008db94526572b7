/-! TABLES, by program -/
section SN
theorem hq_112 : (e_ml[112]?).map (·.2.1) = some prog_50_method_7_code := rfl
theorem ho_112 : (e_ml[112]?).map (·.1.cls) = some "java/util/ArrayList" := rfl
theorem hr_112 : (e_ml[112]?).map (·.2.2.2) = some (some (.array (.object "java/lang/Object"))) := rfl
noncomputable def n_112_10 : e_Y := u_retA
theorem t_112_10 : e_Sn 112 10 (e_un n_112_10) := u_retAT (s_aret (.inr ⟨_, rfl⟩) hq_112 hr_112 (by decide +kernel) : e_Sn 112 10 (o_ret e_okR))
noncomputable def n_112_7 : e_Y := u_callV 19 113 4 23 2 n_113_0 n_112_10
theorem t_112_7 : e_Sn 112 7 (e_un n_112_7) := u_callVT rfl (s_callV (ci := 19) (C := er_19) (T := et_19) (N := 3) (index := 69) hq_112 ho_112 hy_113 hp_113 hc_113 hi_113 hd_113 (List.mem_of_getElem? (i := 1832) (by decide +kernel)) hs_113 (List.mem_of_getElem? (i := 72) (by decide +kernel)) rfl (by decide +kernel) rfl : e_Sn 112 7 (o_callV (e_s1 19 113 4) 2 10)) t_113_0 t_112_10
noncomputable def n_112_6 : e_Y := u_bin a_iadd (u_old (o_iadd 7) n_112_7) n_112_7
theorem t_112_6 : e_Sn 112 6 (e_un n_112_6) := u_iaddT (s_iadd hq_112 (by decide +kernel) rfl : e_Sn 112 6 (o_iadd 7)) t_112_7
noncomputable def n_112_5 : e_Y := u_push (.inl 2147483649) n_112_6
theorem t_112_5 : e_Sn 112 5 (e_un n_112_5) := u_pushT (s_iconst (n := (1)) hq_112 (by decide +kernel) rfl ⟨by decide +kernel, by decide +kernel⟩ : e_Sn 112 5 (o_push (.inl 2147483649) 6)) t_112_6
noncomputable def n_112_2 : e_Y := u_getf 19 1 (u_old (o_getf (e_f1 19 1) 5) n_112_5) n_112_5
theorem t_112_2 : e_Sn 112 2 (e_un n_112_2) := u_getfT (s_getf (C := er_19) (T := et_19) (N := 3) (ref := "java/util/ArrayList") (index := 48) (ci := 19) (k := 1) hq_112 ho_112 ⟨rfl, by decide, ei_19, (List.mem_of_getElem? (i := 1767) (by decide +kernel)), .inl rfl⟩ (by decide +kernel) rfl : e_Sn 112 2 (o_getf (e_f1 19 1) 5)) t_112_5
noncomputable def n_112_1 : e_Y := u_ld f_okA f_l0 n_112_2
theorem t_112_1 : e_Sn 112 1 (e_un n_112_1) := u_ldAT f_l0_eq (s_aload (i := .aload_n 0) (len := 1) hq_112 (by decide +kernel) rfl (.inr ⟨0, rfl, rfl, rfl⟩) : e_Sn 112 1 (o_load e_okR 0 2)) t_112_2
noncomputable def n_112_0 : e_Y := u_ld f_okA f_l0 n_112_1
theorem t_112_0 : e_Sn 112 0 (e_un n_112_0) := u_ldAT f_l0_eq (s_aload (i := .aload_n 0) (len := 1) hq_112 (by decide +kernel) rfl (.inr ⟨0, rfl, rfl, rfl⟩) : e_Sn 112 0 (o_load e_okR 0 1)) t_112_1
noncomputable def e_tb_112 : e_X := (e_lf 0 (e_un n_112_0))
theorem e_tk_112 : e_Tb 112 e_tb_112 := (e_lfT t_112_0)
theorem hq_108 : (e_ml[108]?).map (·.2.1) = some prog_50_method_24_code := rfl
theorem ho_108 : (e_ml[108]?).map (·.1.cls) = some "java/util/ArrayList" := rfl
theorem hr_108 : (e_ml[108]?).map (·.2.2.2) = some none := rfl
noncomputable def n_108_22 : e_Y := u_tab (o_retv)
theorem t_108_22 : e_Sn 108 22 (e_un n_108_22) := u_tabT (s_vret hq_108 hr_108 (by decide +kernel) : e_Sn 108 22 (o_retv))
noncomputable def n_108_19 : e_Y := u_old (o_putf (e_f1 19 1) e_okI 22) n_108_22
theorem t_108_19 : e_Sn 108 19 (e_un n_108_19) := u_oldT (s_putf (ty0 := ey_19) (ok := e_okI) (C := er_19) (T := et_19) (N := 3) (ref := "java/util/ArrayList") (index := 48) (ci := 19) (k := 1) hq_108 ho_108 ⟨rfl, by decide, ei_19, (List.mem_of_getElem? (i := 1767) (by decide +kernel)), .inl rfl⟩ eo_19 en_19 e_oksI (.inl rfl) (by decide +kernel) rfl : e_Sn 108 19 (o_putf (e_f1 19 1) e_okI 22)) t_108_22 (e_cg_putf (e_f1 19 1) e_okI)
noncomputable def n_108_18 : e_Y := u_bin a_iadd (u_old (o_iadd 19) n_108_19) n_108_19
theorem t_108_18 : e_Sn 108 18 (e_un n_108_18) := u_iaddT (s_iadd hq_108 (by decide +kernel) rfl : e_Sn 108 18 (o_iadd 19)) t_108_19
noncomputable def n_108_17 : e_Y := u_push (.inl 2147483649) n_108_18
theorem t_108_17 : e_Sn 108 17 (e_un n_108_17) := u_pushT (s_iconst (n := (1)) hq_108 (by decide +kernel) rfl ⟨by decide +kernel, by decide +kernel⟩ : e_Sn 108 17 (o_push (.inl 2147483649) 18)) t_108_18
noncomputable def n_108_16 : e_Y := u_ld f_okI f_l3 n_108_17
theorem t_108_16 : e_Sn 108 16 (e_un n_108_16) := u_ldIT f_l3_eq (s_iload (i := .iload_n 3) (len := 1) hq_108 (by decide +kernel) rfl (.inr ⟨3, rfl, rfl, rfl⟩) : e_Sn 108 16 (o_load e_okI 3 17)) t_108_17
noncomputable def n_108_15 : e_Y := u_ld f_okA f_l0 n_108_16
theorem t_108_15 : e_Sn 108 15 (e_un n_108_15) := u_ldAT f_l0_eq (s_aload (i := .aload_n 0) (len := 1) hq_108 (by decide +kernel) rfl (.inr ⟨0, rfl, rfl, rfl⟩) : e_Sn 108 15 (o_load e_okR 0 16)) t_108_16
noncomputable def n_108_14 : e_Y := u_old (o_astR 3 (fun k => Nat.beq k 13 || Nat.beq k 15 || Nat.beq k 100) 15) n_108_15
theorem t_108_14 : e_Sn 108 14 (e_un n_108_14) := u_oldT (s_aast (tc := 0) (E := "java/lang/Object") hq_108 rfl (by decide) (fun k hk => by
  simp only [Bool.or_eq_true, Nat.beq_eq] at hk
  rcases hk with ((rfl | rfl) | rfl) <;> first | exact ⟨er_13, rfl, .inr (List.mem_of_getElem? (i := 3171) (by decide +kernel))⟩ | exact ⟨er_15, rfl, .inr (List.mem_of_getElem? (i := 3191) (by decide +kernel))⟩ | exact ⟨"[I", rfl, .inr (List.mem_of_getElem? (i := 3202) (by decide +kernel))⟩) (by decide +kernel) rfl : e_Sn 108 14 (o_astR 3 (fun k => Nat.beq k 13 || Nat.beq k 15 || Nat.beq k 100) 15)) t_108_15 (e_cg_astR 3 (fun k => Nat.beq k 13 || Nat.beq k 15 || Nat.beq k 100))
noncomputable def n_108_13 : e_Y := u_ld f_okA f_l1 n_108_14
theorem t_108_13 : e_Sn 108 13 (e_un n_108_13) := u_ldAT f_l1_eq (s_aload (i := .aload_n 1) (len := 1) hq_108 (by decide +kernel) rfl (.inr ⟨1, rfl, rfl, rfl⟩) : e_Sn 108 13 (o_load e_okR 1 14)) t_108_14
noncomputable def n_108_12 : e_Y := u_ld f_okI f_l3 n_108_13
theorem t_108_12 : e_Sn 108 12 (e_un n_108_12) := u_ldIT f_l3_eq (s_iload (i := .iload_n 3) (len := 1) hq_108 (by decide +kernel) rfl (.inr ⟨3, rfl, rfl, rfl⟩) : e_Sn 108 12 (o_load e_okI 3 13)) t_108_13
noncomputable def n_108_11 : e_Y := u_ld f_okA f_l2 n_108_12
theorem t_108_11 : e_Sn 108 11 (e_un n_108_11) := u_ldAT f_l2_eq (s_aload (i := .aload_n 2) (len := 1) hq_108 (by decide +kernel) rfl (.inr ⟨2, rfl, rfl, rfl⟩) : e_Sn 108 11 (o_load e_okR 2 12)) t_108_12
noncomputable def n_108_10 : e_Y := u_st f_okA f_s2 n_108_11
theorem t_108_10 : e_Sn 108 10 (e_un n_108_10) := u_stAT (fun _ _ _ => f_s2_eq) (s_astore (i := .astore_n 2) (len := 1) hq_108 (by decide +kernel) rfl (.inr ⟨2, rfl, rfl, rfl⟩) : e_Sn 108 10 (o_store e_okR 2 11)) t_108_11
noncomputable def n_108_7 : e_Y := u_callV 19 112 1 20 1 n_112_0 n_108_10
theorem t_108_7 : e_Sn 108 7 (e_un n_108_7) := u_callVT rfl (s_callV (ci := 19) (C := er_19) (T := et_19) (N := 3) (index := 129) hq_108 ho_108 hy_112 hp_112 hc_112 hi_112 hd_112 (List.mem_of_getElem? (i := 1828) (by decide +kernel)) hs_112 (List.mem_of_getElem? (i := 71) (by decide +kernel)) rfl (by decide +kernel) rfl : e_Sn 108 7 (o_callV (e_s1 19 112 1) 1 10)) t_112_0 t_108_10
noncomputable def n_108_6 : e_Y := u_ld f_okA f_l0 n_108_7
theorem t_108_6 : e_Sn 108 6 (e_un n_108_6) := u_ldAT f_l0_eq (s_aload (i := .aload_n 0) (len := 1) hq_108 (by decide +kernel) rfl (.inr ⟨0, rfl, rfl, rfl⟩) : e_Sn 108 6 (o_load e_okR 0 7)) t_108_7
noncomputable def n_108_3 : e_Y := u_jmp y_ne (u_old2 (o_ceq 6 11) 6 n_108_6 n_108_11) n_108_6 n_108_11
theorem t_108_3 : e_Sn 108 3 (e_un n_108_3) := u_ceqT rfl (s_cne (off := (8)) hq_108 (by decide +kernel) rfl rfl : e_Sn 108 3 (o_ceq 6 11)) t_108_6 t_108_11
noncomputable def n_108_2 : e_Y := u_old (o_alen e_fcs 3) n_108_3
theorem t_108_2 : e_Sn 108 2 (e_un n_108_2) := u_oldT (s_alen hq_108 (by decide +kernel) rfl : e_Sn 108 2 (o_alen e_fcs 3)) t_108_3 (e_cg_alen e_fcs)
noncomputable def n_108_1 : e_Y := u_ld f_okA f_l2 n_108_2
theorem t_108_1 : e_Sn 108 1 (e_un n_108_1) := u_ldAT f_l2_eq (s_aload (i := .aload_n 2) (len := 1) hq_108 (by decide +kernel) rfl (.inr ⟨2, rfl, rfl, rfl⟩) : e_Sn 108 1 (o_load e_okR 2 2)) t_108_2
noncomputable def n_108_0 : e_Y := u_ld f_okI f_l3 n_108_1
theorem t_108_0 : e_Sn 108 0 (e_un n_108_0) := u_ldIT f_l3_eq (s_iload (i := .iload_n 3) (len := 1) hq_108 (by decide +kernel) rfl (.inr ⟨3, rfl, rfl, rfl⟩) : e_Sn 108 0 (o_load e_okI 3 1)) t_108_1
noncomputable def e_tb_108 : e_X := (e_lf 0 (e_un n_108_0))
theorem e_tk_108 : e_Tb 108 e_tb_108 := (e_lfT t_108_0)
theorem hq_107 : (e_ml[107]?).map (·.2.1) = some prog_50_method_25_code := rfl
theorem ho_107 : (e_ml[107]?).map (·.1.cls) = some "java/util/ArrayList" := rfl
theorem hr_107 : (e_ml[107]?).map (·.2.2.2) = some (some .boolean) := rfl
noncomputable def n_107_24 : e_Y := u_tab (o_ret e_okZ)
theorem t_107_24 : e_Sn 107 24 (e_un n_107_24) := u_tabT (s_zret hq_107 hr_107 (by decide +kernel) : e_Sn 107 24 (o_ret e_okZ))
noncomputable def n_107_23 : e_Y := u_push (.inl 2147483649) n_107_24
theorem t_107_23 : e_Sn 107 23 (e_un n_107_23) := u_pushT (s_iconst (n := (1)) hq_107 (by decide +kernel) rfl ⟨by decide +kernel, by decide +kernel⟩ : e_Sn 107 23 (o_push (.inl 2147483649) 24)) t_107_24
noncomputable def n_107_20 : e_Y := u_callV 19 108 4 23 4 n_108_0 n_107_23
theorem t_107_20 : e_Sn 107 20 (e_un n_107_20) := u_callVT rfl (s_callV (ci := 19) (C := er_19) (T := et_19) (N := 3) (index := 131) hq_107 ho_107 hy_108 hp_108 hc_108 hi_108 hd_108 (List.mem_of_getElem? (i := 1824) (by decide +kernel)) hs_108 (List.mem_of_getElem? (i := 70) (by decide +kernel)) rfl (by decide +kernel) rfl : e_Sn 107 20 (o_callV (e_s1 19 108 4) 4 23)) t_108_0 t_107_23
noncomputable def n_107_17 : e_Y := u_getf 19 1 (u_old (o_getf (e_f1 19 1) 20) n_107_20) n_107_20
theorem t_107_17 : e_Sn 107 17 (e_un n_107_17) := u_getfT (s_getf (C := er_19) (T := et_19) (N := 3) (ref := "java/util/ArrayList") (index := 48) (ci := 19) (k := 1) hq_107 ho_107 ⟨rfl, by decide, ei_19, (List.mem_of_getElem? (i := 1767) (by decide +kernel)), .inl rfl⟩ (by decide +kernel) rfl : e_Sn 107 17 (o_getf (e_f1 19 1) 20)) t_107_20
noncomputable def n_107_16 : e_Y := u_ld f_okA f_l0 n_107_17
theorem t_107_16 : e_Sn 107 16 (e_un n_107_16) := u_ldAT f_l0_eq (s_aload (i := .aload_n 0) (len := 1) hq_107 (by decide +kernel) rfl (.inr ⟨0, rfl, rfl, rfl⟩) : e_Sn 107 16 (o_load e_okR 0 17)) t_107_17
noncomputable def n_107_13 : e_Y := u_getf 19 0 (u_old (o_getf (e_f1 19 0) 16) n_107_16) n_107_16
theorem t_107_13 : e_Sn 107 13 (e_un n_107_13) := u_getfT (s_getf (C := er_19) (T := et_19) (N := 3) (ref := "java/util/ArrayList") (index := 9) (ci := 19) (k := 0) hq_107 ho_107 ⟨rfl, by decide, ei_19, (List.mem_of_getElem? (i := 1764) (by decide +kernel)), .inl rfl⟩ (by decide +kernel) rfl : e_Sn 107 13 (o_getf (e_f1 19 0) 16)) t_107_16
noncomputable def n_107_12 : e_Y := u_ld f_okA f_l0 n_107_13
theorem t_107_12 : e_Sn 107 12 (e_un n_107_12) := u_ldAT f_l0_eq (s_aload (i := .aload_n 0) (len := 1) hq_107 (by decide +kernel) rfl (.inr ⟨0, rfl, rfl, rfl⟩) : e_Sn 107 12 (o_load e_okR 0 13)) t_107_13
noncomputable def n_107_11 : e_Y := u_ld f_okA f_l1 n_107_12
theorem t_107_11 : e_Sn 107 11 (e_un n_107_11) := u_ldAT f_l1_eq (s_aload (i := .aload_n 1) (len := 1) hq_107 (by decide +kernel) rfl (.inr ⟨1, rfl, rfl, rfl⟩) : e_Sn 107 11 (o_load e_okR 1 12)) t_107_12
noncomputable def n_107_10 : e_Y := u_ld f_okA f_l0 n_107_11
theorem t_107_10 : e_Sn 107 10 (e_un n_107_10) := u_ldAT f_l0_eq (s_aload (i := .aload_n 0) (len := 1) hq_107 (by decide +kernel) rfl (.inr ⟨0, rfl, rfl, rfl⟩) : e_Sn 107 10 (o_load e_okR 0 11)) t_107_11
noncomputable def n_107_7 : e_Y := u_old (o_putf (e_f1 19 2) e_okI 10) n_107_10
theorem t_107_7 : e_Sn 107 7 (e_un n_107_7) := u_oldT (s_putf (ty0 := ey_19) (ok := e_okI) (C := er_19) (T := et_19) (N := 3) (ref := "java/util/ArrayList") (index := 63) (ci := 19) (k := 2) hq_107 ho_107 ⟨rfl, by decide, ei_19, (List.mem_of_getElem? (i := 1771) (by decide +kernel)), .inr (List.mem_of_getElem? (i := 1770) (by decide +kernel))⟩ eo_19 en_19 e_oksI (.inl rfl) (by decide +kernel) rfl : e_Sn 107 7 (o_putf (e_f1 19 2) e_okI 10)) t_107_10 (e_cg_putf (e_f1 19 2) e_okI)
noncomputable def n_107_6 : e_Y := u_bin a_iadd (u_old (o_iadd 7) n_107_7) n_107_7
theorem t_107_6 : e_Sn 107 6 (e_un n_107_6) := u_iaddT (s_iadd hq_107 (by decide +kernel) rfl : e_Sn 107 6 (o_iadd 7)) t_107_7
noncomputable def n_107_5 : e_Y := u_push (.inl 2147483649) n_107_6
theorem t_107_5 : e_Sn 107 5 (e_un n_107_5) := u_pushT (s_iconst (n := (1)) hq_107 (by decide +kernel) rfl ⟨by decide +kernel, by decide +kernel⟩ : e_Sn 107 5 (o_push (.inl 2147483649) 6)) t_107_6
noncomputable def n_107_2 : e_Y := u_getf 19 2 (u_old (o_getf (e_f1 19 2) 5) n_107_5) n_107_5
theorem t_107_2 : e_Sn 107 2 (e_un n_107_2) := u_getfT (s_getf (C := er_19) (T := et_19) (N := 3) (ref := "java/util/ArrayList") (index := 63) (ci := 19) (k := 2) hq_107 ho_107 ⟨rfl, by decide, ei_19, (List.mem_of_getElem? (i := 1771) (by decide +kernel)), .inr (List.mem_of_getElem? (i := 1770) (by decide +kernel))⟩ (by decide +kernel) rfl : e_Sn 107 2 (o_getf (e_f1 19 2) 5)) t_107_5
noncomputable def n_107_1 : e_Y := u_old (o_dup 2) n_107_2
theorem t_107_1 : e_Sn 107 1 (e_un n_107_1) := u_oldT (s_dup hq_107 (by decide +kernel) rfl : e_Sn 107 1 (o_dup 2)) t_107_2 e_cg_dup
noncomputable def n_107_0 : e_Y := u_ld f_okA f_l0 n_107_1
theorem t_107_0 : e_Sn 107 0 (e_un n_107_0) := u_ldAT f_l0_eq (s_aload (i := .aload_n 0) (len := 1) hq_107 (by decide +kernel) rfl (.inr ⟨0, rfl, rfl, rfl⟩) : e_Sn 107 0 (o_load e_okR 0 1)) t_107_1
noncomputable def e_tb_107 : e_X := (e_lf 0 (e_un n_107_0))
theorem e_tk_107 : e_Tb 107 e_tb_107 := (e_lfT t_107_0)
theorem hq_76 : (e_ml[76]?).map (·.2.1) = some prog_17_method_1_code := rfl
theorem ho_76 : (e_ml[76]?).map (·.1.cls) = some "PlateroomprinterModel$Machine" := rfl
theorem hr_76 : (e_ml[76]?).map (·.2.2.2) = some none := rfl
noncomputable def n_76_107 : e_Y := u_tab (o_retv)
theorem t_76_107 : e_Sn 76 107 (e_un n_76_107) := u_tabT (s_vret hq_76 hr_76 (by decide +kernel) : e_Sn 76 107 (o_retv))
noncomputable def n_76_104 : e_Y := (u_at 87)
theorem t_76_104 : e_Sn 76 104 (e_un n_76_104) := u_gotoT (s_goto (off := (-17)) hq_76 (by decide +kernel) rfl : e_Sn 76 104 (o_goto 87)) u_atT
noncomputable def n_76_101 : e_Y := u_inc f_l1 f_s1 1 n_76_104
theorem t_76_101 : e_Sn 76 101 (e_un n_76_101) := u_incT f_l1_eq (fun _ _ _ => f_s1_eq) (s_iinc (zz := (1)) hq_76 (by decide +kernel) rfl (by decide +kernel) ⟨by decide, by decide⟩ : e_Sn 76 101 (o_iinc 1 1 104)) t_76_104
noncomputable def n_76_100 : e_Y := u_pop n_76_101
theorem t_76_100 : e_Sn 76 100 (e_un n_76_100) := u_popT (s_pop hq_76 (by decide +kernel) rfl : e_Sn 76 100 (o_pop 101)) t_76_101
noncomputable def n_76_97 : e_Y := u_callV 19 107 2 21 2 n_107_0 n_76_100
theorem t_76_97 : e_Sn 76 97 (e_un n_76_97) := u_callVT rfl (s_callV (ci := 19) (C := er_19) (T := et_19) (N := 3) (index := 48) hq_76 ho_76 hy_107 hp_107 hc_107 hi_107 hd_107 (List.mem_of_getElem? (i := 1820) (by decide +kernel)) hs_107 (List.mem_of_getElem? (i := 1822) (by decide +kernel)) rfl (by decide +kernel) rfl : e_Sn 76 97 (o_callV (e_s1 19 107 2) 2 100)) t_107_0 t_76_100
noncomputable def n_76_96 : e_Y := u_push e_N n_76_97
theorem t_76_96 : e_Sn 76 96 (e_un n_76_96) := u_pushT (s_null hq_76 (by decide +kernel) rfl : e_Sn 76 96 (o_push e_N 97)) t_76_97
noncomputable def n_76_93 : e_Y := u_getf 14 4 (u_old (o_getf (e_f1 14 4) 96) n_76_96) n_76_96
theorem t_76_93 : e_Sn 76 93 (e_un n_76_93) := u_getfT (s_getf (C := er_14) (T := et_14) (N := 13) (ref := "PlateroomprinterModel$Machine") (index := 34) (ci := 14) (k := 4) hq_76 ho_76 ⟨rfl, by decide, ei_14, (List.mem_of_getElem? (i := 1902) (by decide +kernel)), .inl rfl⟩ (by decide +kernel) rfl : e_Sn 76 93 (o_getf (e_f1 14 4) 96)) t_76_96
noncomputable def n_76_92 : e_Y := u_ld f_okA f_l0 n_76_93
theorem t_76_92 : e_Sn 76 92 (e_un n_76_92) := u_ldAT f_l0_eq (s_aload (i := .aload_n 0) (len := 1) hq_76 (by decide +kernel) rfl (.inr ⟨0, rfl, rfl, rfl⟩) : e_Sn 76 92 (o_load e_okR 0 93)) t_76_93
noncomputable def n_76_89 : e_Y := u_jmp y_ge (u_old2 (o_clt 92 107) 92 n_76_92 n_76_107) n_76_92 n_76_107
theorem t_76_89 : e_Sn 76 89 (e_un n_76_89) := u_cltT rfl (s_cge (off := (18)) hq_76 (by decide +kernel) rfl rfl : e_Sn 76 89 (o_clt 92 107)) t_76_92 t_76_107
noncomputable def n_76_88 : e_Y := u_push (.inl 2147483653) n_76_89
theorem t_76_88 : e_Sn 76 88 (e_un n_76_88) := u_pushT (s_iconst (n := (5)) hq_76 (by decide +kernel) rfl ⟨by decide +kernel, by decide +kernel⟩ : e_Sn 76 88 (o_push (.inl 2147483653) 89)) t_76_89
noncomputable def n_76_87 : e_Y := u_ld f_okI f_l1 n_76_88
theorem t_76_87 : e_Sn 76 87 (e_un n_76_87) := u_ldIT f_l1_eq (s_iload (i := .iload_n 1) (len := 1) hq_76 (by decide +kernel) rfl (.inr ⟨1, rfl, rfl, rfl⟩) : e_Sn 76 87 (o_load e_okI 1 88)) t_76_88
noncomputable def n_76_86 : e_Y := u_st f_okI f_s1 n_76_87
theorem t_76_86 : e_Sn 76 86 (e_un n_76_86) := u_stIT (fun _ _ _ => f_s1_eq) (s_istore (i := .istore_n 1) (len := 1) hq_76 (by decide +kernel) rfl (.inr ⟨1, rfl, rfl, rfl⟩) : e_Sn 76 86 (o_store e_okI 1 87)) t_76_87
noncomputable def n_76_85 : e_Y := u_push (.inl 2147483648) n_76_86
theorem t_76_85 : e_Sn 76 85 (e_un n_76_85) := u_pushT (s_iconst (n := (0)) hq_76 (by decide +kernel) rfl ⟨by decide +kernel, by decide +kernel⟩ : e_Sn 76 85 (o_push (.inl 2147483648) 86)) t_76_86
noncomputable def n_76_82 : e_Y := u_old (o_putf (e_f1 14 12) e_okR 85) n_76_85
theorem t_76_82 : e_Sn 76 82 (e_un n_76_82) := u_oldT (s_putf (ty0 := ey_14) (ok := e_okR) (C := er_14) (T := et_14) (N := 13) (ref := "PlateroomprinterModel$Machine") (index := 44) (ci := 14) (k := 12) hq_76 ho_76 ⟨rfl, by decide, ei_14, (List.mem_of_getElem? (i := 1926) (by decide +kernel)), .inl rfl⟩ eo_14 en_14 e_oksA (.inl rfl) (by decide +kernel) rfl : e_Sn 76 82 (o_putf (e_f1 14 12) e_okR 85)) t_76_85 (e_cg_putf (e_f1 14 12) e_okR)
noncomputable def n_76_80 : e_Y := u_tab (o_newa 0 (e_I 2147483648) 82)
theorem t_76_80 : e_Sn 76 80 (e_un n_76_80) := u_tabT (s_newI (List.mem_of_getElem? (i := 215) (by decide +kernel)) hq_76 (by decide +kernel) rfl : e_Sn 76 80 (o_newa 0 (e_I 2147483648) 82))
noncomputable def n_76_78 : e_Y := u_push (.inl 2147483701) n_76_80
theorem t_76_78 : e_Sn 76 78 (e_un n_76_78) := u_pushT (s_bipush (n := (53)) hq_76 (by decide +kernel) rfl ⟨by decide +kernel, by decide +kernel⟩ : e_Sn 76 78 (o_push (.inl 2147483701) 80)) t_76_80
noncomputable def n_76_77 : e_Y := u_ld f_okA f_l0 n_76_78
theorem t_76_77 : e_Sn 76 77 (e_un n_76_77) := u_ldAT f_l0_eq (s_aload (i := .aload_n 0) (len := 1) hq_76 (by decide +kernel) rfl (.inr ⟨0, rfl, rfl, rfl⟩) : e_Sn 76 77 (o_load e_okR 0 78)) t_76_78
noncomputable def n_76_74 : e_Y := u_old (o_putf (e_f1 14 6) e_okR 77) n_76_77
theorem t_76_74 : e_Sn 76 74 (e_un n_76_74) := u_oldT (s_putf (ty0 := ey_14) (ok := e_okR) (C := er_14) (T := et_14) (N := 13) (ref := "PlateroomprinterModel$Machine") (index := 40) (ci := 14) (k := 6) hq_76 ho_76 ⟨rfl, by decide, ei_14, (List.mem_of_getElem? (i := 1908) (by decide +kernel)), .inl rfl⟩ eo_14 en_14 e_oksA (.inl rfl) (by decide +kernel) rfl : e_Sn 76 74 (o_putf (e_f1 14 6) e_okR 77)) t_76_77 (e_cg_putf (e_f1 14 6) e_okR)
noncomputable def n_76_72 : e_Y := u_tab (o_newa 1 (e_I 2147483648) 74)
theorem t_76_72 : e_Sn 76 72 (e_un n_76_72) := u_tabT (s_newZ (List.mem_of_getElem? (i := 1819) (by decide +kernel)) hq_76 (by decide +kernel) rfl : e_Sn 76 72 (o_newa 1 (e_I 2147483648) 74))
noncomputable def n_76_69 : e_Y := u_push (.inl 2147487744) n_76_72
theorem t_76_69 : e_Sn 76 69 (e_un n_76_69) := u_pushT (s_sipush (n := (4096)) hq_76 (by decide +kernel) rfl ⟨by decide +kernel, by decide +kernel⟩ : e_Sn 76 69 (o_push (.inl 2147487744) 72)) t_76_72
noncomputable def n_76_68 : e_Y := u_ld f_okA f_l0 n_76_69
theorem t_76_68 : e_Sn 76 68 (e_un n_76_68) := u_ldAT f_l0_eq (s_aload (i := .aload_n 0) (len := 1) hq_76 (by decide +kernel) rfl (.inr ⟨0, rfl, rfl, rfl⟩) : e_Sn 76 68 (o_load e_okR 0 69)) t_76_69
noncomputable def n_76_65 : e_Y := u_old (o_putf (e_f1 14 5) e_okR 68) n_76_68
theorem t_76_65 : e_Sn 76 65 (e_un n_76_65) := u_oldT (s_putf (ty0 := ey_14) (ok := e_okR) (C := er_14) (T := et_14) (N := 13) (ref := "PlateroomprinterModel$Machine") (index := 37) (ci := 14) (k := 5) hq_76 ho_76 ⟨rfl, by decide, ei_14, (List.mem_of_getElem? (i := 1905) (by decide +kernel)), .inl rfl⟩ eo_14 en_14 e_oksR (.inl rfl) (by decide +kernel) rfl : e_Sn 76 65 (o_putf (e_f1 14 5) e_okR 68)) t_76_68 (e_cg_putf (e_f1 14 5) e_okR)
noncomputable def n_76_62 : e_Y := u_tab (o_callI 106 1 1 65)
theorem t_76_62 : e_Sn 76 62 (e_un n_76_62) := u_tabT (s_callI (index := 11) hq_76 ho_76 hy_106 hp_106 hc_106 hi_106 hd_106 (List.mem_of_getElem? (i := 1752) (by decide +kernel)) rfl rfl hs_106 (by decide +kernel) rfl : e_Sn 76 62 (o_callI 106 1 1 65))
noncomputable def n_76_61 : e_Y := u_old (o_dup 62) n_76_62
theorem t_76_61 : e_Sn 76 61 (e_un n_76_61) := u_oldT (s_dup hq_76 (by decide +kernel) rfl : e_Sn 76 61 (o_dup 62)) t_76_62 e_cg_dup
noncomputable def n_76_58 : e_Y := u_tab (o_new 19 3 ef_19 61)
theorem t_76_58 : e_Sn 76 58 (e_un n_76_58) := u_tabT (s_new (index := 9) (ci := 19) (N := 3) (C := er_19) (T := et_19) (ty0 := ey_19) (fv := eg_19) hq_76 ho_76 rfl ei_19 eo_19 (List.mem_of_getElem? (i := 1750) (by decide +kernel)) (List.mem_of_getElem? (i := 1751) (by decide +kernel)) (List.mem_of_getElem? (i := 155) (by decide +kernel)) eh_19 rfl (e_newrel ek_19) (by decide +kernel) rfl : e_Sn 76 58 (o_new 19 3 ef_19 61))
noncomputable def n_76_57 : e_Y := u_ld f_okA f_l0 n_76_58
theorem t_76_57 : e_Sn 76 57 (e_un n_76_57) := u_ldAT f_l0_eq (s_aload (i := .aload_n 0) (len := 1) hq_76 (by decide +kernel) rfl (.inr ⟨0, rfl, rfl, rfl⟩) : e_Sn 76 57 (o_load e_okR 0 58)) t_76_58
noncomputable def n_76_54 : e_Y := u_old (o_putf (e_f1 14 4) e_okR 57) n_76_57
theorem t_76_54 : e_Sn 76 54 (e_un n_76_54) := u_oldT (s_putf (ty0 := ey_14) (ok := e_okR) (C := er_14) (T := et_14) (N := 13) (ref := "PlateroomprinterModel$Machine") (index := 34) (ci := 14) (k := 4) hq_76 ho_76 ⟨rfl, by decide, ei_14, (List.mem_of_getElem? (i := 1902) (by decide +kernel)), .inl rfl⟩ eo_14 en_14 e_oksR (.inl rfl) (by decide +kernel) rfl : e_Sn 76 54 (o_putf (e_f1 14 4) e_okR 57)) t_76_57 (e_cg_putf (e_f1 14 4) e_okR)
noncomputable def n_76_51 : e_Y := u_tab (o_callI 106 1 1 54)
theorem t_76_51 : e_Sn 76 51 (e_un n_76_51) := u_tabT (s_callI (index := 11) hq_76 ho_76 hy_106 hp_106 hc_106 hi_106 hd_106 (List.mem_of_getElem? (i := 1752) (by decide +kernel)) rfl rfl hs_106 (by decide +kernel) rfl : e_Sn 76 51 (o_callI 106 1 1 54))
noncomputable def n_76_50 : e_Y := u_old (o_dup 51) n_76_51
theorem t_76_50 : e_Sn 76 50 (e_un n_76_50) := u_oldT (s_dup hq_76 (by decide +kernel) rfl : e_Sn 76 50 (o_dup 51)) t_76_51 e_cg_dup
noncomputable def n_76_47 : e_Y := u_tab (o_new 19 3 ef_19 50)
theorem t_76_47 : e_Sn 76 47 (e_un n_76_47) := u_tabT (s_new (index := 9) (ci := 19) (N := 3) (C := er_19) (T := et_19) (ty0 := ey_19) (fv := eg_19) hq_76 ho_76 rfl ei_19 eo_19 (List.mem_of_getElem? (i := 1750) (by decide +kernel)) (List.mem_of_getElem? (i := 1751) (by decide +kernel)) (List.mem_of_getElem? (i := 155) (by decide +kernel)) eh_19 rfl (e_newrel ek_19) (by decide +kernel) rfl : e_Sn 76 47 (o_new 19 3 ef_19 50))
noncomputable def n_76_46 : e_Y := u_ld f_okA f_l0 n_76_47
theorem t_76_46 : e_Sn 76 46 (e_un n_76_46) := u_ldAT f_l0_eq (s_aload (i := .aload_n 0) (len := 1) hq_76 (by decide +kernel) rfl (.inr ⟨0, rfl, rfl, rfl⟩) : e_Sn 76 46 (o_load e_okR 0 47)) t_76_47
noncomputable def n_76_43 : e_Y := u_old (o_putf (e_f1 14 3) e_okR 46) n_76_46
theorem t_76_43 : e_Sn 76 43 (e_un n_76_43) := u_oldT (s_putf (ty0 := ey_14) (ok := e_okR) (C := er_14) (T := et_14) (N := 13) (ref := "PlateroomprinterModel$Machine") (index := 31) (ci := 14) (k := 3) hq_76 ho_76 ⟨rfl, by decide, ei_14, (List.mem_of_getElem? (i := 1899) (by decide +kernel)), .inl rfl⟩ eo_14 en_14 e_oksR (.inl rfl) (by decide +kernel) rfl : e_Sn 76 43 (o_putf (e_f1 14 3) e_okR 46)) t_76_46 (e_cg_putf (e_f1 14 3) e_okR)
noncomputable def n_76_40 : e_Y := u_tab (o_callI 106 1 1 43)
theorem t_76_40 : e_Sn 76 40 (e_un n_76_40) := u_tabT (s_callI (index := 11) hq_76 ho_76 hy_106 hp_106 hc_106 hi_106 hd_106 (List.mem_of_getElem? (i := 1752) (by decide +kernel)) rfl rfl hs_106 (by decide +kernel) rfl : e_Sn 76 40 (o_callI 106 1 1 43))
noncomputable def n_76_39 : e_Y := u_old (o_dup 40) n_76_40
theorem t_76_39 : e_Sn 76 39 (e_un n_76_39) := u_oldT (s_dup hq_76 (by decide +kernel) rfl : e_Sn 76 39 (o_dup 40)) t_76_40 e_cg_dup
noncomputable def n_76_36 : e_Y := u_tab (o_new 19 3 ef_19 39)
theorem t_76_36 : e_Sn 76 36 (e_un n_76_36) := u_tabT (s_new (index := 9) (ci := 19) (N := 3) (C := er_19) (T := et_19) (ty0 := ey_19) (fv := eg_19) hq_76 ho_76 rfl ei_19 eo_19 (List.mem_of_getElem? (i := 1750) (by decide +kernel)) (List.mem_of_getElem? (i := 1751) (by decide +kernel)) (List.mem_of_getElem? (i := 155) (by decide +kernel)) eh_19 rfl (e_newrel ek_19) (by decide +kernel) rfl : e_Sn 76 36 (o_new 19 3 ef_19 39))
noncomputable def n_76_35 : e_Y := u_ld f_okA f_l0 n_76_36
theorem t_76_35 : e_Sn 76 35 (e_un n_76_35) := u_ldAT f_l0_eq (s_aload (i := .aload_n 0) (len := 1) hq_76 (by decide +kernel) rfl (.inr ⟨0, rfl, rfl, rfl⟩) : e_Sn 76 35 (o_load e_okR 0 36)) t_76_36
noncomputable def n_76_32 : e_Y := u_old (o_putf (e_f1 14 2) e_okR 35) n_76_35
theorem t_76_32 : e_Sn 76 32 (e_un n_76_32) := u_oldT (s_putf (ty0 := ey_14) (ok := e_okR) (C := er_14) (T := et_14) (N := 13) (ref := "PlateroomprinterModel$Machine") (index := 27) (ci := 14) (k := 2) hq_76 ho_76 ⟨rfl, by decide, ei_14, (List.mem_of_getElem? (i := 1896) (by decide +kernel)), .inl rfl⟩ eo_14 en_14 e_oksR (.inl rfl) (by decide +kernel) rfl : e_Sn 76 32 (o_putf (e_f1 14 2) e_okR 35)) t_76_35 (e_cg_putf (e_f1 14 2) e_okR)
noncomputable def n_76_29 : e_Y := u_tab (o_callI 100 2 1 32)
theorem t_76_29 : e_Sn 76 29 (e_un n_76_29) := u_tabT (s_callI (index := 26) hq_76 ho_76 hy_100 hp_100 hc_100 hi_100 hd_100 (List.mem_of_getElem? (i := 1783) (by decide +kernel)) rfl rfl hs_100 (by decide +kernel) rfl : e_Sn 76 29 (o_callI 100 2 1 32))
noncomputable def n_76_28 : e_Y := u_old (o_dup 29) n_76_29
theorem t_76_28 : e_Sn 76 28 (e_un n_76_28) := u_oldT (s_dup hq_76 (by decide +kernel) rfl : e_Sn 76 28 (o_dup 29)) t_76_29 e_cg_dup
noncomputable def n_76_25 : e_Y := u_tab (o_new 17 6 ef_17 28)
theorem t_76_25 : e_Sn 76 25 (e_un n_76_25) := u_tabT (s_new (index := 24) (ci := 17) (N := 6) (C := er_17) (T := et_17) (ty0 := ey_17) (fv := eg_17) hq_76 ho_76 rfl ei_17 eo_17 (List.mem_of_getElem? (i := 1781) (by decide +kernel)) (List.mem_of_getElem? (i := 1782) (by decide +kernel)) (List.mem_of_getElem? (i := 156) (by decide +kernel)) eh_17 rfl (e_newrel ek_17) (by decide +kernel) rfl : e_Sn 76 25 (o_new 17 6 ef_17 28))
noncomputable def n_76_24 : e_Y := u_ld f_okA f_l0 n_76_25
theorem t_76_24 : e_Sn 76 24 (e_un n_76_24) := u_ldAT f_l0_eq (s_aload (i := .aload_n 0) (len := 1) hq_76 (by decide +kernel) rfl (.inr ⟨0, rfl, rfl, rfl⟩) : e_Sn 76 24 (o_load e_okR 0 25)) t_76_25
noncomputable def n_76_21 : e_Y := u_old (o_putf (e_f1 14 1) e_okR 24) n_76_24
theorem t_76_21 : e_Sn 76 21 (e_un n_76_21) := u_oldT (s_putf (ty0 := ey_14) (ok := e_okR) (C := er_14) (T := et_14) (N := 13) (ref := "PlateroomprinterModel$Machine") (index := 20) (ci := 14) (k := 1) hq_76 ho_76 ⟨rfl, by decide, ei_14, (List.mem_of_getElem? (i := 1893) (by decide +kernel)), .inl rfl⟩ eo_14 en_14 e_oksA (.inl rfl) (by decide +kernel) rfl : e_Sn 76 21 (o_putf (e_f1 14 1) e_okR 24)) t_76_24 (e_cg_putf (e_f1 14 1) e_okR)
noncomputable def n_76_18 : e_Y := u_tab (o_newa 6 e_N 21)
theorem t_76_18 : e_Sn 76 18 (e_un n_76_18) := u_tabT (s_newR (tc := 3) (index := 18) (E := "PlateroomprinterModel$Item") rfl ho_76 (List.mem_of_getElem? (i := 1779) (by decide +kernel)) (fun s h => h _ (List.mem_filter.mpr ⟨(List.mem_of_getElem? (i := 1780) (by decide +kernel)), rfl⟩)) hq_76 (by decide +kernel) rfl : e_Sn 76 18 (o_newa 6 e_N 21))
noncomputable def n_76_16 : e_Y := u_push (.inl 2147483658) n_76_18
theorem t_76_16 : e_Sn 76 16 (e_un n_76_16) := u_pushT (s_bipush (n := (10)) hq_76 (by decide +kernel) rfl ⟨by decide +kernel, by decide +kernel⟩ : e_Sn 76 16 (o_push (.inl 2147483658) 18)) t_76_18
noncomputable def n_76_15 : e_Y := u_ld f_okA f_l0 n_76_16
theorem t_76_15 : e_Sn 76 15 (e_un n_76_15) := u_ldAT f_l0_eq (s_aload (i := .aload_n 0) (len := 1) hq_76 (by decide +kernel) rfl (.inr ⟨0, rfl, rfl, rfl⟩) : e_Sn 76 15 (o_load e_okR 0 16)) t_76_16
noncomputable def n_76_12 : e_Y := u_old (o_putf (e_f1 14 0) e_okR 15) n_76_15
theorem t_76_12 : e_Sn 76 12 (e_un n_76_12) := u_oldT (s_putf (ty0 := ey_14) (ok := e_okR) (C := er_14) (T := et_14) (N := 13) (ref := "PlateroomprinterModel$Machine") (index := 12) (ci := 14) (k := 0) hq_76 ho_76 ⟨rfl, by decide, ei_14, (List.mem_of_getElem? (i := 1890) (by decide +kernel)), .inl rfl⟩ eo_14 en_14 e_oksR (.inl rfl) (by decide +kernel) rfl : e_Sn 76 12 (o_putf (e_f1 14 0) e_okR 15)) t_76_15 (e_cg_putf (e_f1 14 0) e_okR)
noncomputable def n_76_9 : e_Y := u_tab (o_callI 106 1 1 12)
theorem t_76_9 : e_Sn 76 9 (e_un n_76_9) := u_tabT (s_callI (index := 11) hq_76 ho_76 hy_106 hp_106 hc_106 hi_106 hd_106 (List.mem_of_getElem? (i := 1752) (by decide +kernel)) rfl rfl hs_106 (by decide +kernel) rfl : e_Sn 76 9 (o_callI 106 1 1 12))
noncomputable def n_76_8 : e_Y := u_old (o_dup 9) n_76_9
theorem t_76_8 : e_Sn 76 8 (e_un n_76_8) := u_oldT (s_dup hq_76 (by decide +kernel) rfl : e_Sn 76 8 (o_dup 9)) t_76_9 e_cg_dup
noncomputable def n_76_5 : e_Y := u_tab (o_new 19 3 ef_19 8)
theorem t_76_5 : e_Sn 76 5 (e_un n_76_5) := u_tabT (s_new (index := 9) (ci := 19) (N := 3) (C := er_19) (T := et_19) (ty0 := ey_19) (fv := eg_19) hq_76 ho_76 rfl ei_19 eo_19 (List.mem_of_getElem? (i := 1750) (by decide +kernel)) (List.mem_of_getElem? (i := 1751) (by decide +kernel)) (List.mem_of_getElem? (i := 155) (by decide +kernel)) eh_19 rfl (e_newrel ek_19) (by decide +kernel) rfl : e_Sn 76 5 (o_new 19 3 ef_19 8))
noncomputable def n_76_4 : e_Y := u_ld f_okA f_l0 n_76_5
theorem t_76_4 : e_Sn 76 4 (e_un n_76_4) := u_ldAT f_l0_eq (s_aload (i := .aload_n 0) (len := 1) hq_76 (by decide +kernel) rfl (.inr ⟨0, rfl, rfl, rfl⟩) : e_Sn 76 4 (o_load e_okR 0 5)) t_76_5
noncomputable def n_76_1 : e_Y := u_tab (o_oinit 4)
theorem t_76_1 : e_Sn 76 1 (e_un n_76_1) := u_tabT (s_oinit (idx := 3) hq_76 ho_76 (List.mem_of_getElem? (i := 1749) (by decide +kernel)) (List.mem_of_getElem? (i := 190) (by decide +kernel)) (List.mem_of_getElem? (i := 191) (by decide +kernel)) (by decide +kernel) rfl : e_Sn 76 1 (o_oinit 4))
noncomputable def n_76_0 : e_Y := u_ld f_okA f_l0 n_76_1
theorem t_76_0 : e_Sn 76 0 (e_un n_76_0) := u_ldAT f_l0_eq (s_aload (i := .aload_n 0) (len := 1) hq_76 (by decide +kernel) rfl (.inr ⟨0, rfl, rfl, rfl⟩) : e_Sn 76 0 (o_load e_okR 0 1)) t_76_1
noncomputable def e_tb_76 : e_X := (e_br 43 (e_br 21 (e_br 8 (e_br 4 (e_lf 0 (e_un n_76_0)) (e_lf 4 (e_un n_76_4))) (e_br 12 (e_lf 8 (e_un n_76_8)) (e_lf 12 (e_un n_76_12)))) (e_br 32 (e_br 28 (e_lf 21 (e_un n_76_21)) (e_lf 28 (e_un n_76_28))) (e_br 39 (e_lf 32 (e_un n_76_32)) (e_lf 39 (e_un n_76_39))))) (e_br 65 (e_br 54 (e_br 50 (e_lf 43 (e_un n_76_43)) (e_lf 50 (e_un n_76_50))) (e_br 61 (e_lf 54 (e_un n_76_54)) (e_lf 61 (e_un n_76_61)))) (e_br 82 (e_br 74 (e_lf 65 (e_un n_76_65)) (e_lf 74 (e_un n_76_74))) (e_br 87 (e_lf 82 (e_un n_76_82)) (e_lf 87 (e_un n_76_87))))))
theorem e_tk_76 : e_Tb 76 e_tb_76 := (e_brT (e_brT (e_brT (e_brT (e_lfT t_76_0) (e_lfT t_76_4)) (e_brT (e_lfT t_76_8) (e_lfT t_76_12))) (e_brT (e_brT (e_lfT t_76_21) (e_lfT t_76_28)) (e_brT (e_lfT t_76_32) (e_lfT t_76_39)))) (e_brT (e_brT (e_brT (e_lfT t_76_43) (e_lfT t_76_50)) (e_brT (e_lfT t_76_54) (e_lfT t_76_61))) (e_brT (e_brT (e_lfT t_76_65) (e_lfT t_76_74)) (e_brT (e_lfT t_76_82) (e_lfT t_76_87)))))
theorem hq_61 : (e_ml[61]?).map (·.2.1) = some prog_14_method_1_code := rfl
theorem ho_61 : (e_ml[61]?).map (·.1.cls) = some "PlateroomprinterModel" := rfl
theorem hr_61 : (e_ml[61]?).map (·.2.2.2) = some none := rfl
noncomputable def n_61_45 : e_Y := u_tab (o_retv)
theorem t_61_45 : e_Sn 61 45 (e_un n_61_45) := u_tabT (s_vret hq_61 hr_61 (by decide +kernel) : e_Sn 61 45 (o_retv))
noncomputable def n_61_42 : e_Y := u_old (o_putf (e_f1 12 3) e_okR 45) n_61_45
theorem t_61_42 : e_Sn 61 42 (e_un n_61_42) := u_oldT (s_putf (ty0 := ey_12) (ok := e_okR) (C := er_12) (T := et_12) (N := 5) (ref := "PlateroomprinterModel") (index := 23) (ci := 12) (k := 3) hq_61 ho_61 ⟨rfl, by decide, ei_12, (List.mem_of_getElem? (i := 1961) (by decide +kernel)), .inl rfl⟩ eo_12 en_12 e_oksA (.inr ⟨rfl, rfl, rfl⟩) (by decide +kernel) rfl : e_Sn 61 42 (o_putf (e_f1 12 3) e_okR 45)) t_61_45 (e_cg_putf (e_f1 12 3) e_okR)
noncomputable def n_61_41 : e_Y := u_old (o_ast 0 e_okI 42) n_61_42
theorem t_61_41 : e_Sn 61 41 (e_un n_61_41) := u_oldT (s_iast hq_61 (by decide +kernel) rfl : e_Sn 61 41 (o_ast 0 e_okI 42)) t_61_42 (e_cg_ast 0 e_okI)
noncomputable def n_61_40 : e_Y := u_push (.inl 2147483647) n_61_41
theorem t_61_40 : e_Sn 61 40 (e_un n_61_40) := u_pushT (s_iconst (n := (-1)) hq_61 (by decide +kernel) rfl ⟨by decide +kernel, by decide +kernel⟩ : e_Sn 61 40 (o_push (.inl 2147483647) 41)) t_61_41
noncomputable def n_61_39 : e_Y := u_push (.inl 2147483650) n_61_40
theorem t_61_39 : e_Sn 61 39 (e_un n_61_39) := u_pushT (s_iconst (n := (2)) hq_61 (by decide +kernel) rfl ⟨by decide +kernel, by decide +kernel⟩ : e_Sn 61 39 (o_push (.inl 2147483650) 40)) t_61_40
noncomputable def n_61_38 : e_Y := u_old (o_dup 39) n_61_39
theorem t_61_38 : e_Sn 61 38 (e_un n_61_38) := u_oldT (s_dup hq_61 (by decide +kernel) rfl : e_Sn 61 38 (o_dup 39)) t_61_39 e_cg_dup
noncomputable def n_61_37 : e_Y := u_old (o_ast 0 e_okI 38) n_61_38
theorem t_61_37 : e_Sn 61 37 (e_un n_61_37) := u_oldT (s_iast hq_61 (by decide +kernel) rfl : e_Sn 61 37 (o_ast 0 e_okI 38)) t_61_38 (e_cg_ast 0 e_okI)
noncomputable def n_61_36 : e_Y := u_push (.inl 2147483647) n_61_37
theorem t_61_36 : e_Sn 61 36 (e_un n_61_36) := u_pushT (s_iconst (n := (-1)) hq_61 (by decide +kernel) rfl ⟨by decide +kernel, by decide +kernel⟩ : e_Sn 61 36 (o_push (.inl 2147483647) 37)) t_61_37
noncomputable def n_61_35 : e_Y := u_push (.inl 2147483649) n_61_36
theorem t_61_35 : e_Sn 61 35 (e_un n_61_35) := u_pushT (s_iconst (n := (1)) hq_61 (by decide +kernel) rfl ⟨by decide +kernel, by decide +kernel⟩ : e_Sn 61 35 (o_push (.inl 2147483649) 36)) t_61_36
noncomputable def n_61_34 : e_Y := u_old (o_dup 35) n_61_35
theorem t_61_34 : e_Sn 61 34 (e_un n_61_34) := u_oldT (s_dup hq_61 (by decide +kernel) rfl : e_Sn 61 34 (o_dup 35)) t_61_35 e_cg_dup
noncomputable def n_61_33 : e_Y := u_old (o_ast 0 e_okI 34) n_61_34
theorem t_61_33 : e_Sn 61 33 (e_un n_61_33) := u_oldT (s_iast hq_61 (by decide +kernel) rfl : e_Sn 61 33 (o_ast 0 e_okI 34)) t_61_34 (e_cg_ast 0 e_okI)
noncomputable def n_61_32 : e_Y := u_push (.inl 2147483648) n_61_33
theorem t_61_32 : e_Sn 61 32 (e_un n_61_32) := u_pushT (s_iconst (n := (0)) hq_61 (by decide +kernel) rfl ⟨by decide +kernel, by decide +kernel⟩ : e_Sn 61 32 (o_push (.inl 2147483648) 33)) t_61_33
noncomputable def n_61_31 : e_Y := u_push (.inl 2147483648) n_61_32
theorem t_61_31 : e_Sn 61 31 (e_un n_61_31) := u_pushT (s_iconst (n := (0)) hq_61 (by decide +kernel) rfl ⟨by decide +kernel, by decide +kernel⟩ : e_Sn 61 31 (o_push (.inl 2147483648) 32)) t_61_32
noncomputable def n_61_30 : e_Y := u_old (o_dup 31) n_61_31
theorem t_61_30 : e_Sn 61 30 (e_un n_61_30) := u_oldT (s_dup hq_61 (by decide +kernel) rfl : e_Sn 61 30 (o_dup 31)) t_61_31 e_cg_dup
noncomputable def n_61_28 : e_Y := u_tab (o_newa 0 (e_I 2147483648) 30)
theorem t_61_28 : e_Sn 61 28 (e_un n_61_28) := u_tabT (s_newI (List.mem_of_getElem? (i := 215) (by decide +kernel)) hq_61 (by decide +kernel) rfl : e_Sn 61 28 (o_newa 0 (e_I 2147483648) 30))
noncomputable def n_61_27 : e_Y := u_push (.inl 2147483651) n_61_28
theorem t_61_27 : e_Sn 61 27 (e_un n_61_27) := u_pushT (s_iconst (n := (3)) hq_61 (by decide +kernel) rfl ⟨by decide +kernel, by decide +kernel⟩ : e_Sn 61 27 (o_push (.inl 2147483651) 28)) t_61_28
noncomputable def n_61_26 : e_Y := u_ld f_okA f_l0 n_61_27
theorem t_61_26 : e_Sn 61 26 (e_un n_61_26) := u_ldAT f_l0_eq (s_aload (i := .aload_n 0) (len := 1) hq_61 (by decide +kernel) rfl (.inr ⟨0, rfl, rfl, rfl⟩) : e_Sn 61 26 (o_load e_okR 0 27)) t_61_27
noncomputable def n_61_23 : e_Y := u_old (o_putf (e_f1 12 2) e_okR 26) n_61_26
theorem t_61_23 : e_Sn 61 23 (e_un n_61_23) := u_oldT (s_putf (ty0 := ey_12) (ok := e_okR) (C := er_12) (T := et_12) (N := 5) (ref := "PlateroomprinterModel") (index := 19) (ci := 12) (k := 2) hq_61 ho_61 ⟨rfl, by decide, ei_12, (List.mem_of_getElem? (i := 1960) (by decide +kernel)), .inl rfl⟩ eo_12 en_12 e_oksR (.inl rfl) (by decide +kernel) rfl : e_Sn 61 23 (o_putf (e_f1 12 2) e_okR 26)) t_61_26 (e_cg_putf (e_f1 12 2) e_okR)
noncomputable def n_61_20 : e_Y := u_tab (o_callI 106 1 1 23)
theorem t_61_20 : e_Sn 61 20 (e_un n_61_20) := u_tabT (s_callI (index := 18) hq_61 ho_61 hy_106 hp_106 hc_106 hi_106 hd_106 (List.mem_of_getElem? (i := 1957) (by decide +kernel)) rfl rfl hs_106 (by decide +kernel) rfl : e_Sn 61 20 (o_callI 106 1 1 23))
noncomputable def n_61_19 : e_Y := u_old (o_dup 20) n_61_20
theorem t_61_19 : e_Sn 61 19 (e_un n_61_19) := u_oldT (s_dup hq_61 (by decide +kernel) rfl : e_Sn 61 19 (o_dup 20)) t_61_20 e_cg_dup
noncomputable def n_61_16 : e_Y := u_tab (o_new 19 3 ef_19 19)
theorem t_61_16 : e_Sn 61 16 (e_un n_61_16) := u_tabT (s_new (index := 16) (ci := 19) (N := 3) (C := er_19) (T := et_19) (ty0 := ey_19) (fv := eg_19) hq_61 ho_61 rfl ei_19 eo_19 (List.mem_of_getElem? (i := 1956) (by decide +kernel)) (List.mem_of_getElem? (i := 1751) (by decide +kernel)) (List.mem_of_getElem? (i := 155) (by decide +kernel)) eh_19 rfl (e_newrel ek_19) (by decide +kernel) rfl : e_Sn 61 16 (o_new 19 3 ef_19 19))
noncomputable def n_61_15 : e_Y := u_ld f_okA f_l0 n_61_16
theorem t_61_15 : e_Sn 61 15 (e_un n_61_15) := u_ldAT f_l0_eq (s_aload (i := .aload_n 0) (len := 1) hq_61 (by decide +kernel) rfl (.inr ⟨0, rfl, rfl, rfl⟩) : e_Sn 61 15 (o_load e_okR 0 16)) t_61_16
noncomputable def n_61_12 : e_Y := u_old (o_putf (e_f1 12 1) e_okR 15) n_61_15
theorem t_61_12 : e_Sn 61 12 (e_un n_61_12) := u_oldT (s_putf (ty0 := ey_12) (ok := e_okR) (C := er_12) (T := et_12) (N := 5) (ref := "PlateroomprinterModel") (index := 10) (ci := 12) (k := 1) hq_61 ho_61 ⟨rfl, by decide, ei_12, (List.mem_of_getElem? (i := 1959) (by decide +kernel)), .inl rfl⟩ eo_12 en_12 e_oksR (.inl rfl) (by decide +kernel) rfl : e_Sn 61 12 (o_putf (e_f1 12 1) e_okR 15)) t_61_15 (e_cg_putf (e_f1 12 1) e_okR)
noncomputable def n_61_9 : e_Y := u_tab (o_callI 76 2 1 12)
theorem t_61_9 : e_Sn 61 9 (e_un n_61_9) := u_tabT (s_callI (index := 9) hq_61 ho_61 hy_76 hp_76 hc_76 hi_76 hd_76 (List.mem_of_getElem? (i := 1746) (by decide +kernel)) rfl rfl hs_76 (by decide +kernel) rfl : e_Sn 61 9 (o_callI 76 2 1 12))
noncomputable def n_61_8 : e_Y := u_old (o_dup 9) n_61_9
theorem t_61_8 : e_Sn 61 8 (e_un n_61_8) := u_oldT (s_dup hq_61 (by decide +kernel) rfl : e_Sn 61 8 (o_dup 9)) t_61_9 e_cg_dup
noncomputable def n_61_5 : e_Y := u_tab (o_new 14 13 ef_14 8)
theorem t_61_5 : e_Sn 61 5 (e_un n_61_5) := u_tabT (s_new (index := 7) (ci := 14) (N := 13) (C := er_14) (T := et_14) (ty0 := ey_14) (fv := eg_14) hq_61 ho_61 rfl ei_14 eo_14 (List.mem_of_getElem? (i := 1744) (by decide +kernel)) (List.mem_of_getElem? (i := 1745) (by decide +kernel)) (List.mem_of_getElem? (i := 152) (by decide +kernel)) eh_14 rfl (e_newrel ek_14) (by decide +kernel) rfl : e_Sn 61 5 (o_new 14 13 ef_14 8))
noncomputable def n_61_4 : e_Y := u_ld f_okA f_l0 n_61_5
theorem t_61_4 : e_Sn 61 4 (e_un n_61_4) := u_ldAT f_l0_eq (s_aload (i := .aload_n 0) (len := 1) hq_61 (by decide +kernel) rfl (.inr ⟨0, rfl, rfl, rfl⟩) : e_Sn 61 4 (o_load e_okR 0 5)) t_61_5
noncomputable def n_61_1 : e_Y := u_tab (o_oinit 4)
theorem t_61_1 : e_Sn 61 1 (e_un n_61_1) := u_tabT (s_oinit (idx := 1) hq_61 ho_61 (List.mem_of_getElem? (i := 1743) (by decide +kernel)) (List.mem_of_getElem? (i := 190) (by decide +kernel)) (List.mem_of_getElem? (i := 191) (by decide +kernel)) (by decide +kernel) rfl : e_Sn 61 1 (o_oinit 4))
noncomputable def n_61_0 : e_Y := u_ld f_okA f_l0 n_61_1
theorem t_61_0 : e_Sn 61 0 (e_un n_61_0) := u_ldAT f_l0_eq (s_aload (i := .aload_n 0) (len := 1) hq_61 (by decide +kernel) rfl (.inr ⟨0, rfl, rfl, rfl⟩) : e_Sn 61 0 (o_load e_okR 0 1)) t_61_1
noncomputable def e_tb_61 : e_X := (e_br 12 (e_br 4 (e_lf 0 (e_un n_61_0)) (e_br 8 (e_lf 4 (e_un n_61_4)) (e_lf 8 (e_un n_61_8)))) (e_br 23 (e_br 19 (e_lf 12 (e_un n_61_12)) (e_lf 19 (e_un n_61_19))) (e_br 30 (e_lf 23 (e_un n_61_23)) (e_lf 30 (e_un n_61_30)))))
theorem e_tk_61 : e_Tb 61 e_tb_61 := (e_brT (e_brT (e_lfT t_61_0) (e_brT (e_lfT t_61_4) (e_lfT t_61_8))) (e_brT (e_brT (e_lfT t_61_12) (e_lfT t_61_19)) (e_brT (e_lfT t_61_23) (e_lfT t_61_30))))
theorem hq_117 : (e_ml[117]?).map (·.2.1) = some prog_50_method_8_code := rfl
theorem ho_117 : (e_ml[117]?).map (·.1.cls) = some "java/util/ArrayList" := rfl
theorem hr_117 : (e_ml[117]?).map (·.2.2.2) = some (some .int) := rfl
noncomputable def n_117_4 : e_Y := u_retI
theorem t_117_4 : e_Sn 117 4 (e_un n_117_4) := u_retIT (s_iret hq_117 hr_117 (by decide +kernel) : e_Sn 117 4 (o_ret e_okI))
noncomputable def n_117_1 : e_Y := u_getf 19 1 (u_old (o_getf (e_f1 19 1) 4) n_117_4) n_117_4
theorem t_117_1 : e_Sn 117 1 (e_un n_117_1) := u_getfT (s_getf (C := er_19) (T := et_19) (N := 3) (ref := "java/util/ArrayList") (index := 48) (ci := 19) (k := 1) hq_117 ho_117 ⟨rfl, by decide, ei_19, (List.mem_of_getElem? (i := 1767) (by decide +kernel)), .inl rfl⟩ (by decide +kernel) rfl : e_Sn 117 1 (o_getf (e_f1 19 1) 4)) t_117_4
noncomputable def n_117_0 : e_Y := u_ld f_okA f_l0 n_117_1
theorem t_117_0 : e_Sn 117 0 (e_un n_117_0) := u_ldAT f_l0_eq (s_aload (i := .aload_n 0) (len := 1) hq_117 (by decide +kernel) rfl (.inr ⟨0, rfl, rfl, rfl⟩) : e_Sn 117 0 (o_load e_okR 0 1)) t_117_1
noncomputable def e_tb_117 : e_X := (e_lf 0 (e_un n_117_0))
theorem e_tk_117 : e_Tb 117 e_tb_117 := (e_lfT t_117_0)
theorem hq_62 : (e_ml[62]?).map (·.2.1) = some prog_14_method_13_code := rfl
theorem ho_62 : (e_ml[62]?).map (·.1.cls) = some "PlateroomprinterModel" := rfl
theorem hr_62 : (e_ml[62]?).map (·.2.2.2) = some (some (.object "java/util/ArrayList")) := rfl
noncomputable def n_62_46 : e_Y := u_retA
theorem t_62_46 : e_Sn 62 46 (e_un n_62_46) := u_retAT (s_aret (.inl ⟨_, rfl⟩) hq_62 hr_62 (by decide +kernel) : e_Sn 62 46 (o_ret e_okR))
noncomputable def n_62_45 : e_Y := u_ld f_okA f_l3 n_62_46
theorem t_62_45 : e_Sn 62 45 (e_un n_62_45) := u_ldAT f_l3_eq (s_aload (i := .aload_n 3) (len := 1) hq_62 (by decide +kernel) rfl (.inr ⟨3, rfl, rfl, rfl⟩) : e_Sn 62 45 (o_load e_okR 3 46)) t_62_46
noncomputable def n_62_17 : e_Y := u_jmp y_ge (u_old2 (o_clt 20 45) 20 (u_at 20) n_62_45) (u_at 20) n_62_45
theorem t_62_17 : e_Sn 62 17 (e_un n_62_17) := u_cltT rfl (s_cge (off := (28)) hq_62 (by decide +kernel) rfl rfl : e_Sn 62 17 (o_clt 20 45)) u_atT t_62_45
noncomputable def n_62_14 : e_Y := u_callV 19 117 1 20 1 n_117_0 n_62_17
theorem t_62_14 : e_Sn 62 14 (e_un n_62_14) := u_callVT rfl (s_callV (ci := 19) (C := er_19) (T := et_19) (N := 3) (index := 74) hq_62 ho_62 hy_117 hp_117 hc_117 hi_117 hd_117 (List.mem_of_getElem? (i := 2000) (by decide +kernel)) hs_117 (List.mem_of_getElem? (i := 2002) (by decide +kernel)) rfl (by decide +kernel) rfl : e_Sn 62 14 (o_callV (e_s1 19 117 1) 1 17)) t_117_0 t_62_17
noncomputable def n_62_13 : e_Y := u_ld f_okA f_l0 n_62_14
theorem t_62_13 : e_Sn 62 13 (e_un n_62_13) := u_ldAT f_l0_eq (s_aload (i := .aload_n 0) (len := 1) hq_62 (by decide +kernel) rfl (.inr ⟨0, rfl, rfl, rfl⟩) : e_Sn 62 13 (o_load e_okR 0 14)) t_62_14
noncomputable def n_62_11 : e_Y := u_ld f_okI f_l4 n_62_13
theorem t_62_11 : e_Sn 62 11 (e_un n_62_11) := u_ldIT f_l4_eq (s_iload (i := .iload 4) (len := 2) hq_62 (by decide +kernel) rfl (.inl ⟨rfl, rfl⟩) : e_Sn 62 11 (o_load e_okI 4 13)) t_62_13
noncomputable def n_62_9 : e_Y := u_st f_okI f_s4 n_62_11
theorem t_62_9 : e_Sn 62 9 (e_un n_62_9) := u_stIT (fun _ _ _ => f_s4_eq) (s_istore (i := .istore 4) (len := 2) hq_62 (by decide +kernel) rfl (.inl ⟨rfl, rfl⟩) : e_Sn 62 9 (o_store e_okI 4 11)) t_62_11
noncomputable def n_62_8 : e_Y := u_push (.inl 2147483648) n_62_9
theorem t_62_8 : e_Sn 62 8 (e_un n_62_8) := u_pushT (s_iconst (n := (0)) hq_62 (by decide +kernel) rfl ⟨by decide +kernel, by decide +kernel⟩ : e_Sn 62 8 (o_push (.inl 2147483648) 9)) t_62_9
noncomputable def n_62_7 : e_Y := u_st f_okA f_s3 n_62_8
theorem t_62_7 : e_Sn 62 7 (e_un n_62_7) := u_stAT (fun _ _ _ => f_s3_eq) (s_astore (i := .astore_n 3) (len := 1) hq_62 (by decide +kernel) rfl (.inr ⟨3, rfl, rfl, rfl⟩) : e_Sn 62 7 (o_store e_okR 3 8)) t_62_8
noncomputable def n_62_4 : e_Y := u_tab (o_callI 106 1 1 7)
theorem t_62_4 : e_Sn 62 4 (e_un n_62_4) := u_tabT (s_callI (index := 18) hq_62 ho_62 hy_106 hp_106 hc_106 hi_106 hd_106 (List.mem_of_getElem? (i := 1957) (by decide +kernel)) rfl rfl hs_106 (by decide +kernel) rfl : e_Sn 62 4 (o_callI 106 1 1 7))
noncomputable def n_62_3 : e_Y := u_old (o_dup 4) n_62_4
theorem t_62_3 : e_Sn 62 3 (e_un n_62_3) := u_oldT (s_dup hq_62 (by decide +kernel) rfl : e_Sn 62 3 (o_dup 4)) t_62_4 e_cg_dup
noncomputable def n_62_0 : e_Y := u_tab (o_new 19 3 ef_19 3)
theorem t_62_0 : e_Sn 62 0 (e_un n_62_0) := u_tabT (s_new (index := 16) (ci := 19) (N := 3) (C := er_19) (T := et_19) (ty0 := ey_19) (fv := eg_19) hq_62 ho_62 rfl ei_19 eo_19 (List.mem_of_getElem? (i := 1956) (by decide +kernel)) (List.mem_of_getElem? (i := 1751) (by decide +kernel)) (List.mem_of_getElem? (i := 155) (by decide +kernel)) eh_19 rfl (e_newrel ek_19) (by decide +kernel) rfl : e_Sn 62 0 (o_new 19 3 ef_19 3))
noncomputable def e_tb_62 : e_X := (e_br 3 (e_lf 0 (e_un n_62_0)) (e_br 7 (e_lf 3 (e_un n_62_3)) (e_lf 7 (e_un n_62_7))))
theorem e_tk_62 : e_Tb 62 e_tb_62 := (e_brT (e_lfT t_62_0) (e_brT (e_lfT t_62_3) (e_lfT t_62_7)))
theorem hq_63 : (e_ml[63]?).map (·.2.1) = some prog_14_method_20_code := rfl
theorem ho_63 : (e_ml[63]?).map (·.1.cls) = some "PlateroomprinterModel" := rfl
theorem hr_63 : (e_ml[63]?).map (·.2.2.2) = some (some (.array .int)) := rfl
noncomputable def n_63_26 : e_Y := u_retA
theorem t_63_26 : e_Sn 63 26 (e_un n_63_26) := u_retAT (s_aret (.inr ⟨_, rfl⟩) hq_63 hr_63 (by decide +kernel) : e_Sn 63 26 (o_ret e_okR))
noncomputable def n_63_25 : e_Y := u_ld f_okA f_l1 n_63_26
theorem t_63_25 : e_Sn 63 25 (e_un n_63_25) := u_ldAT f_l1_eq (s_aload (i := .aload_n 1) (len := 1) hq_63 (by decide +kernel) rfl (.inr ⟨1, rfl, rfl, rfl⟩) : e_Sn 63 25 (o_load e_okR 1 26)) t_63_26
noncomputable def n_63_22 : e_Y := (u_at 7)
theorem t_63_22 : e_Sn 63 22 (e_un n_63_22) := u_gotoT (s_goto (off := (-15)) hq_63 (by decide +kernel) rfl : e_Sn 63 22 (o_goto 7)) u_atT
noncomputable def n_63_19 : e_Y := u_inc f_l2 f_s2 1 n_63_22
theorem t_63_19 : e_Sn 63 19 (e_un n_63_19) := u_incT f_l2_eq (fun _ _ _ => f_s2_eq) (s_iinc (zz := (1)) hq_63 (by decide +kernel) rfl (by decide +kernel) ⟨by decide, by decide⟩ : e_Sn 63 19 (o_iinc 2 1 22)) t_63_22
noncomputable def n_63_18 : e_Y := u_old (o_ast 0 e_okI 19) n_63_19
theorem t_63_18 : e_Sn 63 18 (e_un n_63_18) := u_oldT (s_iast hq_63 (by decide +kernel) rfl : e_Sn 63 18 (o_ast 0 e_okI 19)) t_63_19 (e_cg_ast 0 e_okI)
noncomputable def n_63_17 : e_Y := u_ald 0 (u_old (o_ald e_fcs 18) n_63_18) n_63_18
theorem t_63_17 : e_Sn 63 17 (e_un n_63_17) := u_aldT (s_iald hq_63 (by decide +kernel) rfl : e_Sn 63 17 (o_ald e_fcs 18)) t_63_18
noncomputable def n_63_16 : e_Y := u_ld f_okI f_l2 n_63_17
theorem t_63_16 : e_Sn 63 16 (e_un n_63_16) := u_ldIT f_l2_eq (s_iload (i := .iload_n 2) (len := 1) hq_63 (by decide +kernel) rfl (.inr ⟨2, rfl, rfl, rfl⟩) : e_Sn 63 16 (o_load e_okI 2 17)) t_63_17
noncomputable def n_63_15 : e_Y := u_ld f_okA f_l0 n_63_16
theorem t_63_15 : e_Sn 63 15 (e_un n_63_15) := u_ldAT f_l0_eq (s_aload (i := .aload_n 0) (len := 1) hq_63 (by decide +kernel) rfl (.inr ⟨0, rfl, rfl, rfl⟩) : e_Sn 63 15 (o_load e_okR 0 16)) t_63_16
noncomputable def n_63_14 : e_Y := u_ld f_okI f_l2 n_63_15
theorem t_63_14 : e_Sn 63 14 (e_un n_63_14) := u_ldIT f_l2_eq (s_iload (i := .iload_n 2) (len := 1) hq_63 (by decide +kernel) rfl (.inr ⟨2, rfl, rfl, rfl⟩) : e_Sn 63 14 (o_load e_okI 2 15)) t_63_15
noncomputable def n_63_13 : e_Y := u_ld f_okA f_l1 n_63_14
theorem t_63_13 : e_Sn 63 13 (e_un n_63_13) := u_ldAT f_l1_eq (s_aload (i := .aload_n 1) (len := 1) hq_63 (by decide +kernel) rfl (.inr ⟨1, rfl, rfl, rfl⟩) : e_Sn 63 13 (o_load e_okR 1 14)) t_63_14
noncomputable def n_63_10 : e_Y := u_jmp y_ge (u_old2 (o_clt 13 25) 13 n_63_13 n_63_25) n_63_13 n_63_25
theorem t_63_10 : e_Sn 63 10 (e_un n_63_10) := u_cltT rfl (s_cge (off := (15)) hq_63 (by decide +kernel) rfl rfl : e_Sn 63 10 (o_clt 13 25)) t_63_13 t_63_25
noncomputable def n_63_9 : e_Y := u_old (o_alen e_fcs 10) n_63_10
theorem t_63_9 : e_Sn 63 9 (e_un n_63_9) := u_oldT (s_alen hq_63 (by decide +kernel) rfl : e_Sn 63 9 (o_alen e_fcs 10)) t_63_10 (e_cg_alen e_fcs)
noncomputable def n_63_8 : e_Y := u_ld f_okA f_l0 n_63_9
theorem t_63_8 : e_Sn 63 8 (e_un n_63_8) := u_ldAT f_l0_eq (s_aload (i := .aload_n 0) (len := 1) hq_63 (by decide +kernel) rfl (.inr ⟨0, rfl, rfl, rfl⟩) : e_Sn 63 8 (o_load e_okR 0 9)) t_63_9
noncomputable def n_63_7 : e_Y := u_ld f_okI f_l2 n_63_8
theorem t_63_7 : e_Sn 63 7 (e_un n_63_7) := u_ldIT f_l2_eq (s_iload (i := .iload_n 2) (len := 1) hq_63 (by decide +kernel) rfl (.inr ⟨2, rfl, rfl, rfl⟩) : e_Sn 63 7 (o_load e_okI 2 8)) t_63_8
noncomputable def n_63_6 : e_Y := u_st f_okI f_s2 n_63_7
theorem t_63_6 : e_Sn 63 6 (e_un n_63_6) := u_stIT (fun _ _ _ => f_s2_eq) (s_istore (i := .istore_n 2) (len := 1) hq_63 (by decide +kernel) rfl (.inr ⟨2, rfl, rfl, rfl⟩) : e_Sn 63 6 (o_store e_okI 2 7)) t_63_7
noncomputable def n_63_5 : e_Y := u_push (.inl 2147483648) n_63_6
theorem t_63_5 : e_Sn 63 5 (e_un n_63_5) := u_pushT (s_iconst (n := (0)) hq_63 (by decide +kernel) rfl ⟨by decide +kernel, by decide +kernel⟩ : e_Sn 63 5 (o_push (.inl 2147483648) 6)) t_63_6
noncomputable def n_63_4 : e_Y := u_st f_okA f_s1 n_63_5
theorem t_63_4 : e_Sn 63 4 (e_un n_63_4) := u_stAT (fun _ _ _ => f_s1_eq) (s_astore (i := .astore_n 1) (len := 1) hq_63 (by decide +kernel) rfl (.inr ⟨1, rfl, rfl, rfl⟩) : e_Sn 63 4 (o_store e_okR 1 5)) t_63_5
noncomputable def n_63_2 : e_Y := u_tab (o_newa 0 (e_I 2147483648) 4)
theorem t_63_2 : e_Sn 63 2 (e_un n_63_2) := u_tabT (s_newI (List.mem_of_getElem? (i := 215) (by decide +kernel)) hq_63 (by decide +kernel) rfl : e_Sn 63 2 (o_newa 0 (e_I 2147483648) 4))
noncomputable def n_63_1 : e_Y := u_old (o_alen e_fcs 2) n_63_2
theorem t_63_1 : e_Sn 63 1 (e_un n_63_1) := u_oldT (s_alen hq_63 (by decide +kernel) rfl : e_Sn 63 1 (o_alen e_fcs 2)) t_63_2 (e_cg_alen e_fcs)
noncomputable def n_63_0 : e_Y := u_ld f_okA f_l0 n_63_1
theorem t_63_0 : e_Sn 63 0 (e_un n_63_0) := u_ldAT f_l0_eq (s_aload (i := .aload_n 0) (len := 1) hq_63 (by decide +kernel) rfl (.inr ⟨0, rfl, rfl, rfl⟩) : e_Sn 63 0 (o_load e_okR 0 1)) t_63_1
noncomputable def e_tb_63 : e_X := (e_br 4 (e_lf 0 (e_un n_63_0)) (e_br 7 (e_lf 4 (e_un n_63_4)) (e_lf 7 (e_un n_63_7))))
theorem e_tk_63 : e_Tb 63 e_tb_63 := (e_brT (e_lfT t_63_0) (e_brT (e_lfT t_63_4) (e_lfT t_63_7)))
theorem hq_64 : (e_ml[64]?).map (·.2.1) = some prog_14_method_19_code := rfl
theorem ho_64 : (e_ml[64]?).map (·.1.cls) = some "PlateroomprinterModel" := rfl
theorem hr_64 : (e_ml[64]?).map (·.2.2.2) = some (some (.array .boolean)) := rfl
noncomputable def n_64_26 : e_Y := u_retA
theorem t_64_26 : e_Sn 64 26 (e_un n_64_26) := u_retAT (s_aret (.inr ⟨_, rfl⟩) hq_64 hr_64 (by decide +kernel) : e_Sn 64 26 (o_ret e_okR))
noncomputable def n_64_25 : e_Y := u_ld f_okA f_l1 n_64_26
theorem t_64_25 : e_Sn 64 25 (e_un n_64_25) := u_ldAT f_l1_eq (s_aload (i := .aload_n 1) (len := 1) hq_64 (by decide +kernel) rfl (.inr ⟨1, rfl, rfl, rfl⟩) : e_Sn 64 25 (o_load e_okR 1 26)) t_64_26
noncomputable def n_64_22 : e_Y := (u_at 7)
theorem t_64_22 : e_Sn 64 22 (e_un n_64_22) := u_gotoT (s_goto (off := (-15)) hq_64 (by decide +kernel) rfl : e_Sn 64 22 (o_goto 7)) u_atT
noncomputable def n_64_19 : e_Y := u_inc f_l2 f_s2 1 n_64_22
theorem t_64_19 : e_Sn 64 19 (e_un n_64_19) := u_incT f_l2_eq (fun _ _ _ => f_s2_eq) (s_iinc (zz := (1)) hq_64 (by decide +kernel) rfl (by decide +kernel) ⟨by decide, by decide⟩ : e_Sn 64 19 (o_iinc 2 1 22)) t_64_22
noncomputable def n_64_18 : e_Y := u_old (o_ast 1 e_okZ 19) n_64_19
theorem t_64_18 : e_Sn 64 18 (e_un n_64_18) := u_oldT (s_zast hq_64 (by decide +kernel) rfl : e_Sn 64 18 (o_ast 1 e_okZ 19)) t_64_19 (e_cg_ast 1 e_okZ)
noncomputable def n_64_17 : e_Y := u_ald 1 (u_old (o_aldO 1 18) n_64_18) n_64_18
theorem t_64_17 : e_Sn 64 17 (e_un n_64_17) := u_aldOT (s_zald hq_64 (by decide +kernel) rfl : e_Sn 64 17 (o_aldO 1 18)) t_64_18
noncomputable def n_64_16 : e_Y := u_ld f_okI f_l2 n_64_17
theorem t_64_16 : e_Sn 64 16 (e_un n_64_16) := u_ldIT f_l2_eq (s_iload (i := .iload_n 2) (len := 1) hq_64 (by decide +kernel) rfl (.inr ⟨2, rfl, rfl, rfl⟩) : e_Sn 64 16 (o_load e_okI 2 17)) t_64_17
noncomputable def n_64_15 : e_Y := u_ld f_okA f_l0 n_64_16
theorem t_64_15 : e_Sn 64 15 (e_un n_64_15) := u_ldAT f_l0_eq (s_aload (i := .aload_n 0) (len := 1) hq_64 (by decide +kernel) rfl (.inr ⟨0, rfl, rfl, rfl⟩) : e_Sn 64 15 (o_load e_okR 0 16)) t_64_16
noncomputable def n_64_14 : e_Y := u_ld f_okI f_l2 n_64_15
theorem t_64_14 : e_Sn 64 14 (e_un n_64_14) := u_ldIT f_l2_eq (s_iload (i := .iload_n 2) (len := 1) hq_64 (by decide +kernel) rfl (.inr ⟨2, rfl, rfl, rfl⟩) : e_Sn 64 14 (o_load e_okI 2 15)) t_64_15
noncomputable def n_64_13 : e_Y := u_ld f_okA f_l1 n_64_14
theorem t_64_13 : e_Sn 64 13 (e_un n_64_13) := u_ldAT f_l1_eq (s_aload (i := .aload_n 1) (len := 1) hq_64 (by decide +kernel) rfl (.inr ⟨1, rfl, rfl, rfl⟩) : e_Sn 64 13 (o_load e_okR 1 14)) t_64_14
noncomputable def n_64_10 : e_Y := u_jmp y_ge (u_old2 (o_clt 13 25) 13 n_64_13 n_64_25) n_64_13 n_64_25
theorem t_64_10 : e_Sn 64 10 (e_un n_64_10) := u_cltT rfl (s_cge (off := (15)) hq_64 (by decide +kernel) rfl rfl : e_Sn 64 10 (o_clt 13 25)) t_64_13 t_64_25
noncomputable def n_64_9 : e_Y := u_old (o_alen e_fcs 10) n_64_10
theorem t_64_9 : e_Sn 64 9 (e_un n_64_9) := u_oldT (s_alen hq_64 (by decide +kernel) rfl : e_Sn 64 9 (o_alen e_fcs 10)) t_64_10 (e_cg_alen e_fcs)
noncomputable def n_64_8 : e_Y := u_ld f_okA f_l0 n_64_9
theorem t_64_8 : e_Sn 64 8 (e_un n_64_8) := u_ldAT f_l0_eq (s_aload (i := .aload_n 0) (len := 1) hq_64 (by decide +kernel) rfl (.inr ⟨0, rfl, rfl, rfl⟩) : e_Sn 64 8 (o_load e_okR 0 9)) t_64_9
noncomputable def n_64_7 : e_Y := u_ld f_okI f_l2 n_64_8
theorem t_64_7 : e_Sn 64 7 (e_un n_64_7) := u_ldIT f_l2_eq (s_iload (i := .iload_n 2) (len := 1) hq_64 (by decide +kernel) rfl (.inr ⟨2, rfl, rfl, rfl⟩) : e_Sn 64 7 (o_load e_okI 2 8)) t_64_8
noncomputable def n_64_6 : e_Y := u_st f_okI f_s2 n_64_7
theorem t_64_6 : e_Sn 64 6 (e_un n_64_6) := u_stIT (fun _ _ _ => f_s2_eq) (s_istore (i := .istore_n 2) (len := 1) hq_64 (by decide +kernel) rfl (.inr ⟨2, rfl, rfl, rfl⟩) : e_Sn 64 6 (o_store e_okI 2 7)) t_64_7
noncomputable def n_64_5 : e_Y := u_push (.inl 2147483648) n_64_6
theorem t_64_5 : e_Sn 64 5 (e_un n_64_5) := u_pushT (s_iconst (n := (0)) hq_64 (by decide +kernel) rfl ⟨by decide +kernel, by decide +kernel⟩ : e_Sn 64 5 (o_push (.inl 2147483648) 6)) t_64_6
noncomputable def n_64_4 : e_Y := u_st f_okA f_s1 n_64_5
theorem t_64_4 : e_Sn 64 4 (e_un n_64_4) := u_stAT (fun _ _ _ => f_s1_eq) (s_astore (i := .astore_n 1) (len := 1) hq_64 (by decide +kernel) rfl (.inr ⟨1, rfl, rfl, rfl⟩) : e_Sn 64 4 (o_store e_okR 1 5)) t_64_5
noncomputable def n_64_2 : e_Y := u_tab (o_newa 1 (e_I 2147483648) 4)
theorem t_64_2 : e_Sn 64 2 (e_un n_64_2) := u_tabT (s_newZ (List.mem_of_getElem? (i := 1819) (by decide +kernel)) hq_64 (by decide +kernel) rfl : e_Sn 64 2 (o_newa 1 (e_I 2147483648) 4))
noncomputable def n_64_1 : e_Y := u_old (o_alen e_fcs 2) n_64_2
theorem t_64_1 : e_Sn 64 1 (e_un n_64_1) := u_oldT (s_alen hq_64 (by decide +kernel) rfl : e_Sn 64 1 (o_alen e_fcs 2)) t_64_2 (e_cg_alen e_fcs)
noncomputable def n_64_0 : e_Y := u_ld f_okA f_l0 n_64_1
theorem t_64_0 : e_Sn 64 0 (e_un n_64_0) := u_ldAT f_l0_eq (s_aload (i := .aload_n 0) (len := 1) hq_64 (by decide +kernel) rfl (.inr ⟨0, rfl, rfl, rfl⟩) : e_Sn 64 0 (o_load e_okR 0 1)) t_64_1
noncomputable def e_tb_64 : e_X := (e_br 4 (e_lf 0 (e_un n_64_0)) (e_br 7 (e_lf 4 (e_un n_64_4)) (e_lf 7 (e_un n_64_7))))
theorem e_tk_64 : e_Tb 64 e_tb_64 := (e_brT (e_lfT t_64_0) (e_brT (e_lfT t_64_4) (e_lfT t_64_7)))
theorem hq_65 : (e_ml[65]?).map (·.2.1) = some prog_14_method_30_code := rfl
theorem ho_65 : (e_ml[65]?).map (·.1.cls) = some "PlateroomprinterModel" := rfl
theorem hr_65 : (e_ml[65]?).map (·.2.2.2) = some (some .int) := rfl
noncomputable def n_65_22 : e_Y := u_retI
theorem t_65_22 : e_Sn 65 22 (e_un n_65_22) := u_retIT (s_iret hq_65 hr_65 (by decide +kernel) : e_Sn 65 22 (o_ret e_okI))
noncomputable def n_65_21 : e_Y := u_ld f_okI f_l1 n_65_22
theorem t_65_21 : e_Sn 65 21 (e_un n_65_21) := u_ldIT f_l1_eq (s_iload (i := .iload_n 1) (len := 1) hq_65 (by decide +kernel) rfl (.inr ⟨1, rfl, rfl, rfl⟩) : e_Sn 65 21 (o_load e_okI 1 22)) t_65_22
noncomputable def n_65_20 : e_Y := u_old (o_ast 0 e_okI 21) n_65_21
theorem t_65_20 : e_Sn 65 20 (e_un n_65_20) := u_oldT (s_iast hq_65 (by decide +kernel) rfl : e_Sn 65 20 (o_ast 0 e_okI 21)) t_65_21 (e_cg_ast 0 e_okI)
noncomputable def n_65_19 : e_Y := u_ld f_okI f_l3 n_65_20
theorem t_65_19 : e_Sn 65 19 (e_un n_65_19) := u_ldIT f_l3_eq (s_iload (i := .iload_n 3) (len := 1) hq_65 (by decide +kernel) rfl (.inr ⟨3, rfl, rfl, rfl⟩) : e_Sn 65 19 (o_load e_okI 3 20)) t_65_20
noncomputable def n_65_18 : e_Y := u_push (.inl 2147483650) n_65_19
theorem t_65_18 : e_Sn 65 18 (e_un n_65_18) := u_pushT (s_iconst (n := (2)) hq_65 (by decide +kernel) rfl ⟨by decide +kernel, by decide +kernel⟩ : e_Sn 65 18 (o_push (.inl 2147483650) 19)) t_65_19
noncomputable def n_65_15 : e_Y := u_getf 12 3 (u_old (o_getf (e_f1 12 3) 18) n_65_18) n_65_18
theorem t_65_15 : e_Sn 65 15 (e_un n_65_15) := u_getfT (s_getf (C := er_12) (T := et_12) (N := 5) (ref := "PlateroomprinterModel") (index := 23) (ci := 12) (k := 3) hq_65 ho_65 ⟨rfl, by decide, ei_12, (List.mem_of_getElem? (i := 1961) (by decide +kernel)), .inl rfl⟩ (by decide +kernel) rfl : e_Sn 65 15 (o_getf (e_f1 12 3) 18)) t_65_18
noncomputable def n_65_14 : e_Y := u_ld f_okA f_l0 n_65_15
theorem t_65_14 : e_Sn 65 14 (e_un n_65_14) := u_ldAT f_l0_eq (s_aload (i := .aload_n 0) (len := 1) hq_65 (by decide +kernel) rfl (.inr ⟨0, rfl, rfl, rfl⟩) : e_Sn 65 14 (o_load e_okR 0 15)) t_65_15
noncomputable def n_65_13 : e_Y := u_old (o_ast 0 e_okI 14) n_65_14
theorem t_65_13 : e_Sn 65 13 (e_un n_65_13) := u_oldT (s_iast hq_65 (by decide +kernel) rfl : e_Sn 65 13 (o_ast 0 e_okI 14)) t_65_14 (e_cg_ast 0 e_okI)
noncomputable def n_65_12 : e_Y := u_ld f_okI f_l2 n_65_13
theorem t_65_12 : e_Sn 65 12 (e_un n_65_12) := u_ldIT f_l2_eq (s_iload (i := .iload_n 2) (len := 1) hq_65 (by decide +kernel) rfl (.inr ⟨2, rfl, rfl, rfl⟩) : e_Sn 65 12 (o_load e_okI 2 13)) t_65_13
noncomputable def n_65_11 : e_Y := u_push (.inl 2147483649) n_65_12
theorem t_65_11 : e_Sn 65 11 (e_un n_65_11) := u_pushT (s_iconst (n := (1)) hq_65 (by decide +kernel) rfl ⟨by decide +kernel, by decide +kernel⟩ : e_Sn 65 11 (o_push (.inl 2147483649) 12)) t_65_12
noncomputable def n_65_8 : e_Y := u_getf 12 3 (u_old (o_getf (e_f1 12 3) 11) n_65_11) n_65_11
theorem t_65_8 : e_Sn 65 8 (e_un n_65_8) := u_getfT (s_getf (C := er_12) (T := et_12) (N := 5) (ref := "PlateroomprinterModel") (index := 23) (ci := 12) (k := 3) hq_65 ho_65 ⟨rfl, by decide, ei_12, (List.mem_of_getElem? (i := 1961) (by decide +kernel)), .inl rfl⟩ (by decide +kernel) rfl : e_Sn 65 8 (o_getf (e_f1 12 3) 11)) t_65_11
noncomputable def n_65_7 : e_Y := u_ld f_okA f_l0 n_65_8
theorem t_65_7 : e_Sn 65 7 (e_un n_65_7) := u_ldAT f_l0_eq (s_aload (i := .aload_n 0) (len := 1) hq_65 (by decide +kernel) rfl (.inr ⟨0, rfl, rfl, rfl⟩) : e_Sn 65 7 (o_load e_okR 0 8)) t_65_8
noncomputable def n_65_6 : e_Y := u_old (o_ast 0 e_okI 7) n_65_7
theorem t_65_6 : e_Sn 65 6 (e_un n_65_6) := u_oldT (s_iast hq_65 (by decide +kernel) rfl : e_Sn 65 6 (o_ast 0 e_okI 7)) t_65_7 (e_cg_ast 0 e_okI)
noncomputable def n_65_5 : e_Y := u_ld f_okI f_l1 n_65_6
theorem t_65_5 : e_Sn 65 5 (e_un n_65_5) := u_ldIT f_l1_eq (s_iload (i := .iload_n 1) (len := 1) hq_65 (by decide +kernel) rfl (.inr ⟨1, rfl, rfl, rfl⟩) : e_Sn 65 5 (o_load e_okI 1 6)) t_65_6
noncomputable def n_65_4 : e_Y := u_push (.inl 2147483648) n_65_5
theorem t_65_4 : e_Sn 65 4 (e_un n_65_4) := u_pushT (s_iconst (n := (0)) hq_65 (by decide +kernel) rfl ⟨by decide +kernel, by decide +kernel⟩ : e_Sn 65 4 (o_push (.inl 2147483648) 5)) t_65_5
noncomputable def n_65_1 : e_Y := u_getf 12 3 (u_old (o_getf (e_f1 12 3) 4) n_65_4) n_65_4
theorem t_65_1 : e_Sn 65 1 (e_un n_65_1) := u_getfT (s_getf (C := er_12) (T := et_12) (N := 5) (ref := "PlateroomprinterModel") (index := 23) (ci := 12) (k := 3) hq_65 ho_65 ⟨rfl, by decide, ei_12, (List.mem_of_getElem? (i := 1961) (by decide +kernel)), .inl rfl⟩ (by decide +kernel) rfl : e_Sn 65 1 (o_getf (e_f1 12 3) 4)) t_65_4
noncomputable def n_65_0 : e_Y := u_ld f_okA f_l0 n_65_1
theorem t_65_0 : e_Sn 65 0 (e_un n_65_0) := u_ldAT f_l0_eq (s_aload (i := .aload_n 0) (len := 1) hq_65 (by decide +kernel) rfl (.inr ⟨0, rfl, rfl, rfl⟩) : e_Sn 65 0 (o_load e_okR 0 1)) t_65_1
noncomputable def e_tb_65 : e_X := (e_lf 0 (e_un n_65_0))
theorem e_tk_65 : e_Tb 65 e_tb_65 := (e_lfT t_65_0)
theorem hq_66 : (e_ml[66]?).map (·.2.1) = some prog_14_method_2_code := rfl
theorem ho_66 : (e_ml[66]?).map (·.1.cls) = some "PlateroomprinterModel" := rfl
theorem hr_66 : (e_ml[66]?).map (·.2.2.2) = some (some .boolean) := rfl
noncomputable def n_66_18 : e_Y := u_tab (o_ret e_okZ)
theorem t_66_18 : e_Sn 66 18 (e_un n_66_18) := u_tabT (s_zret hq_66 hr_66 (by decide +kernel) : e_Sn 66 18 (o_ret e_okZ))
noncomputable def n_66_14 : e_Y := n_66_18
theorem t_66_14 : e_Sn 66 14 (e_un n_66_14) := u_gotoT (s_goto (off := (4)) hq_66 (by decide +kernel) rfl : e_Sn 66 14 (o_goto 18)) t_66_18
noncomputable def n_66_13 : e_Y := u_push (.inl 2147483649) n_66_14
theorem t_66_13 : e_Sn 66 13 (e_un n_66_13) := u_pushT (s_iconst (n := (1)) hq_66 (by decide +kernel) rfl ⟨by decide +kernel, by decide +kernel⟩ : e_Sn 66 13 (o_push (.inl 2147483649) 14)) t_66_14
noncomputable def n_66_10 : e_Y := u_if y_le0 (u_old2 (o_ifgt 17 13) 17 (u_at 17) n_66_13) (u_at 17) n_66_13
theorem t_66_10 : e_Sn 66 10 (e_un n_66_10) := u_ifgtT rfl (s_ifgt (off := (7)) hq_66 (by decide +kernel) rfl rfl : e_Sn 66 10 (o_ifgt 17 13)) u_atT t_66_13
noncomputable def n_66_9 : e_Y := u_old (o_lcmp 10) n_66_10
theorem t_66_9 : e_Sn 66 9 (e_un n_66_9) := u_oldT (s_lcmp hq_66 (by decide +kernel) rfl : e_Sn 66 9 (o_lcmp 10)) t_66_10 e_cg_lcmp
noncomputable def n_66_7 : e_Y := u_old (o_load e_okL 4 9) n_66_9
theorem t_66_7 : e_Sn 66 7 (e_un n_66_7) := u_oldT (s_lload (i := .lload 4) (len := 2) hq_66 (by decide +kernel) rfl (.inl ⟨rfl, rfl⟩) : e_Sn 66 7 (o_load e_okL 4 9)) t_66_9 e_congr_load
noncomputable def n_66_6 : e_Y := u_old (o_load e_okL 0 7) n_66_7
theorem t_66_6 : e_Sn 66 6 (e_un n_66_6) := u_oldT (s_lload (i := .lload_n 0) (len := 1) hq_66 (by decide +kernel) rfl (.inr ⟨0, rfl, rfl, rfl⟩) : e_Sn 66 6 (o_load e_okL 0 7)) t_66_7 e_congr_load
noncomputable def n_66_3 : e_Y := u_if y_ge0 (u_old2 (o_iflt 17 6) 17 (u_at 17) n_66_6) (u_at 17) n_66_6
theorem t_66_3 : e_Sn 66 3 (e_un n_66_3) := u_ifltT rfl (s_iflt (off := (14)) hq_66 (by decide +kernel) rfl rfl : e_Sn 66 3 (o_iflt 17 6)) u_atT t_66_6
noncomputable def n_66_2 : e_Y := u_old (o_lcmp 3) n_66_3
theorem t_66_2 : e_Sn 66 2 (e_un n_66_2) := u_oldT (s_lcmp hq_66 (by decide +kernel) rfl : e_Sn 66 2 (o_lcmp 3)) t_66_3 e_cg_lcmp
noncomputable def n_66_1 : e_Y := u_old (o_load e_okL 2 2) n_66_2
theorem t_66_1 : e_Sn 66 1 (e_un n_66_1) := u_oldT (s_lload (i := .lload_n 2) (len := 1) hq_66 (by decide +kernel) rfl (.inr ⟨2, rfl, rfl, rfl⟩) : e_Sn 66 1 (o_load e_okL 2 2)) t_66_2 e_congr_load
noncomputable def n_66_0 : e_Y := u_old (o_load e_okL 0 1) n_66_1
theorem t_66_0 : e_Sn 66 0 (e_un n_66_0) := u_oldT (s_lload (i := .lload_n 0) (len := 1) hq_66 (by decide +kernel) rfl (.inr ⟨0, rfl, rfl, rfl⟩) : e_Sn 66 0 (o_load e_okL 0 1)) t_66_1 e_congr_load
noncomputable def e_tb_66 : e_X := (e_lf 0 (e_un n_66_0))
theorem e_tk_66 : e_Tb 66 e_tb_66 := (e_lfT t_66_0)
theorem hq_67 : (e_ml[67]?).map (·.2.1) = some prog_14_method_25_code := rfl
theorem ho_67 : (e_ml[67]?).map (·.1.cls) = some "PlateroomprinterModel" := rfl
theorem hr_67 : (e_ml[67]?).map (·.2.2.2) = some (some .boolean) := rfl
noncomputable def n_67_105 : e_Y := u_tab (o_ret e_okZ)
theorem t_67_105 : e_Sn 67 105 (e_un n_67_105) := u_tabT (s_zret hq_67 hr_67 (by decide +kernel) : e_Sn 67 105 (o_ret e_okZ))
noncomputable def n_67_104 : e_Y := u_push (.inl 2147483648) n_67_105
theorem t_67_104 : e_Sn 67 104 (e_un n_67_104) := u_pushT (s_iconst (n := (0)) hq_67 (by decide +kernel) rfl ⟨by decide +kernel, by decide +kernel⟩ : e_Sn 67 104 (o_push (.inl 2147483648) 105)) t_67_105
noncomputable def n_67_97 : e_Y := u_if y_ne0 (u_old2 (o_ifeq 104 100) 104 n_67_104 (u_at 100)) n_67_104 (u_at 100)
theorem t_67_97 : e_Sn 67 97 (e_un n_67_97) := u_ifeqT rfl (s_ifeq (off := (7)) hq_67 (by decide +kernel) rfl rfl : e_Sn 67 97 (o_ifeq 104 100)) t_67_104 u_atT
noncomputable def n_67_96 : e_Y := u_ld f_okI f_l1 n_67_97
theorem t_67_96 : e_Sn 67 96 (e_un n_67_96) := u_ldIT f_l1_eq (s_iload (i := .iload_n 1) (len := 1) hq_67 (by decide +kernel) rfl (.inr ⟨1, rfl, rfl, rfl⟩) : e_Sn 67 96 (o_load e_okI 1 97)) t_67_97
noncomputable def n_67_77 : e_Y := u_tab (o_ret e_okZ)
theorem t_67_77 : e_Sn 67 77 (e_un n_67_77) := u_tabT (s_zret hq_67 hr_67 (by decide +kernel) : e_Sn 67 77 (o_ret e_okZ))
noncomputable def n_67_76 : e_Y := u_push (.inl 2147483648) n_67_77
theorem t_67_76 : e_Sn 67 76 (e_un n_67_76) := u_pushT (s_iconst (n := (0)) hq_67 (by decide +kernel) rfl ⟨by decide +kernel, by decide +kernel⟩ : e_Sn 67 76 (o_push (.inl 2147483648) 77)) t_67_77
noncomputable def n_67_69 : e_Y := u_if y_ne0 (u_old2 (o_ifeq 72 76) 72 (u_at 72) n_67_76) (u_at 72) n_67_76
theorem t_67_69 : e_Sn 67 69 (e_un n_67_69) := u_ifeqT rfl (s_ifne (off := (7)) hq_67 (by decide +kernel) rfl rfl : e_Sn 67 69 (o_ifeq 72 76)) u_atT t_67_76
noncomputable def n_67_66 : e_Y := u_callS 66 6 25 3 n_66_0 n_67_69
theorem t_67_66 : e_Sn 67 66 (e_un n_67_66) := u_callST rfl (s_callS (index := 136) hq_67 ho_67 hy_66 hp_66 hc_66 hi_66 hd_66 (List.mem_of_getElem? (i := 1987) (by decide +kernel)) hs_66 (by decide +kernel) rfl : e_Sn 67 66 (o_callS 66 6 3 69)) t_66_0 t_67_69
noncomputable def n_67_63 : e_Y := u_push (e_L 9223372036854775860) n_67_66
theorem t_67_63 : e_Sn 67 63 (e_un n_67_63) := u_pushT (s_ldc2 (index := 140) (v := (52)) hq_67 ho_67 (List.mem_of_getElem? (i := 1990) (by decide +kernel)) (by decide +kernel) rfl ⟨by decide +kernel, by decide +kernel⟩ : e_Sn 67 63 (o_push (e_L 9223372036854775860) 66)) t_67_66
noncomputable def n_67_62 : e_Y := u_push (e_L 9223372036854775808) n_67_63
theorem t_67_62 : e_Sn 67 62 (e_un n_67_62) := u_pushT (s_lconst (n := 0) hq_67 (by decide +kernel) rfl ⟨by decide +kernel, by decide +kernel⟩ : e_Sn 67 62 (o_push (e_L 9223372036854775808) 63)) t_67_63
noncomputable def n_67_61 : e_Y := u_old (o_i2l 62) n_67_62
theorem t_67_61 : e_Sn 67 61 (e_un n_67_61) := u_oldT (s_i2l hq_67 (by decide +kernel) rfl : e_Sn 67 61 (o_i2l 62)) t_67_62 e_congr_i2l
noncomputable def n_67_60 : e_Y := u_ld f_okI f_l1 n_67_61
theorem t_67_60 : e_Sn 67 60 (e_un n_67_60) := u_ldIT f_l1_eq (s_iload (i := .iload_n 1) (len := 1) hq_67 (by decide +kernel) rfl (.inr ⟨1, rfl, rfl, rfl⟩) : e_Sn 67 60 (o_load e_okI 1 61)) t_67_61
noncomputable def n_67_59 : e_Y := u_tab (o_ret e_okZ)
theorem t_67_59 : e_Sn 67 59 (e_un n_67_59) := u_tabT (s_zret hq_67 hr_67 (by decide +kernel) : e_Sn 67 59 (o_ret e_okZ))
noncomputable def n_67_58 : e_Y := u_push (.inl 2147483648) n_67_59
theorem t_67_58 : e_Sn 67 58 (e_un n_67_58) := u_pushT (s_iconst (n := (0)) hq_67 (by decide +kernel) rfl ⟨by decide +kernel, by decide +kernel⟩ : e_Sn 67 58 (o_push (.inl 2147483648) 59)) t_67_59
noncomputable def n_67_51 : e_Y := u_if y_ne0 (u_old2 (o_ifeq 54 58) 54 (u_at 54) n_67_58) (u_at 54) n_67_58
theorem t_67_51 : e_Sn 67 51 (e_un n_67_51) := u_ifeqT rfl (s_ifne (off := (7)) hq_67 (by decide +kernel) rfl rfl : e_Sn 67 51 (o_ifeq 54 58)) u_atT t_67_58
noncomputable def n_67_48 : e_Y := u_callS 66 6 25 3 n_66_0 n_67_51
theorem t_67_48 : e_Sn 67 48 (e_un n_67_48) := u_callST rfl (s_callS (index := 136) hq_67 ho_67 hy_66 hp_66 hc_66 hi_66 hd_66 (List.mem_of_getElem? (i := 1987) (by decide +kernel)) hs_66 (by decide +kernel) rfl : e_Sn 67 48 (o_callS 66 6 3 51)) t_66_0 t_67_51
noncomputable def n_67_45 : e_Y := u_push (e_L 9223372036854785807) n_67_48
theorem t_67_45 : e_Sn 67 45 (e_un n_67_45) := u_pushT (s_ldc2 (index := 134) (v := (9999)) hq_67 ho_67 (List.mem_of_getElem? (i := 1986) (by decide +kernel)) (by decide +kernel) rfl ⟨by decide +kernel, by decide +kernel⟩ : e_Sn 67 45 (o_push (e_L 9223372036854785807) 48)) t_67_48
noncomputable def n_67_42 : e_Y := u_push (e_L 9223372036854765809) n_67_45
theorem t_67_42 : e_Sn 67 42 (e_un n_67_42) := u_pushT (s_ldc2 (index := 132) (v := (-9999)) hq_67 ho_67 (List.mem_of_getElem? (i := 1985) (by decide +kernel)) (by decide +kernel) rfl ⟨by decide +kernel, by decide +kernel⟩ : e_Sn 67 42 (o_push (e_L 9223372036854765809) 45)) t_67_45
noncomputable def n_67_41 : e_Y := u_old (o_i2l 42) n_67_42
theorem t_67_41 : e_Sn 67 41 (e_un n_67_41) := u_oldT (s_i2l hq_67 (by decide +kernel) rfl : e_Sn 67 41 (o_i2l 42)) t_67_42 e_congr_i2l
noncomputable def n_67_40 : e_Y := u_ld f_okI f_l1 n_67_41
theorem t_67_40 : e_Sn 67 40 (e_un n_67_40) := u_ldIT f_l1_eq (s_iload (i := .iload_n 1) (len := 1) hq_67 (by decide +kernel) rfl (.inr ⟨1, rfl, rfl, rfl⟩) : e_Sn 67 40 (o_load e_okI 1 41)) t_67_41
noncomputable def n_67_1 : e_Y := u_tab (o_switch 2147483648 [40, 60, 78, 78, 96, 96] 106)
theorem t_67_1 : e_Sn 67 1 (e_un n_67_1) := u_tabT (s_switch (dflt := (105)) (low := (0)) (hi := (5)) (offs := #[(39), (59), (77), (77), (95), (95)]) (len := 39) hq_67 (by decide +kernel) rfl rfl rfl rfl : e_Sn 67 1 (o_switch 2147483648 [40, 60, 78, 78, 96, 96] 106))
noncomputable def n_67_0 : e_Y := u_ld f_okI f_l0 n_67_1
theorem t_67_0 : e_Sn 67 0 (e_un n_67_0) := u_ldIT f_l0_eq (s_iload (i := .iload_n 0) (len := 1) hq_67 (by decide +kernel) rfl (.inr ⟨0, rfl, rfl, rfl⟩) : e_Sn 67 0 (o_load e_okI 0 1)) t_67_1
noncomputable def e_tb_67 : e_X := (e_br 60 (e_br 40 (e_lf 0 (e_un n_67_0)) (e_lf 40 (e_un n_67_40))) (e_br 96 (e_lf 60 (e_un n_67_60)) (e_lf 96 (e_un n_67_96))))
theorem e_tk_67 : e_Tb 67 e_tb_67 := (e_brT (e_brT (e_lfT t_67_0) (e_lfT t_67_40)) (e_brT (e_lfT t_67_60) (e_lfT t_67_96)))
theorem hq_68 : (e_ml[68]?).map (·.2.1) = some prog_14_method_4_code := rfl
theorem ho_68 : (e_ml[68]?).map (·.1.cls) = some "PlateroomprinterModel" := rfl
theorem hr_68 : (e_ml[68]?).map (·.2.2.2) = some none := rfl
noncomputable def n_68_13 : e_Y := u_tab (o_retv)
theorem t_68_13 : e_Sn 68 13 (e_un n_68_13) := u_tabT (s_vret hq_68 hr_68 (by decide +kernel) : e_Sn 68 13 (o_retv))
noncomputable def n_68_1 : e_Y := u_if y_ne0 (u_old2 (o_ifeq 4 13) 4 (u_at 4) n_68_13) (u_at 4) n_68_13
theorem t_68_1 : e_Sn 68 1 (e_un n_68_1) := u_ifeqT rfl (s_ifne (off := (12)) hq_68 (by decide +kernel) rfl rfl : e_Sn 68 1 (o_ifeq 4 13)) u_atT t_68_13
noncomputable def n_68_0 : e_Y := u_ld f_okI f_l0 n_68_1
theorem t_68_0 : e_Sn 68 0 (e_un n_68_0) := u_ldIT f_l0_eq (s_iload (i := .iload_n 0) (len := 1) hq_68 (by decide +kernel) rfl (.inr ⟨0, rfl, rfl, rfl⟩) : e_Sn 68 0 (o_load e_okI 0 1)) t_68_1
noncomputable def e_tb_68 : e_X := (e_lf 0 (e_un n_68_0))
theorem e_tk_68 : e_Tb 68 e_tb_68 := (e_lfT t_68_0)
theorem hq_69 : (e_ml[69]?).map (·.2.1) = some prog_14_method_23_code := rfl
theorem ho_69 : (e_ml[69]?).map (·.1.cls) = some "PlateroomprinterModel" := rfl
theorem hr_69 : (e_ml[69]?).map (·.2.2.2) = some (some .boolean) := rfl
noncomputable def n_69_28 : e_Y := u_tab (o_ret e_okZ)
theorem t_69_28 : e_Sn 69 28 (e_un n_69_28) := u_tabT (s_zret hq_69 hr_69 (by decide +kernel) : e_Sn 69 28 (o_ret e_okZ))
noncomputable def n_69_27 : e_Y := u_push (.inl 2147483648) n_69_28
theorem t_69_27 : e_Sn 69 27 (e_un n_69_27) := u_pushT (s_iconst (n := (0)) hq_69 (by decide +kernel) rfl ⟨by decide +kernel, by decide +kernel⟩ : e_Sn 69 27 (o_push (.inl 2147483648) 28)) t_69_28
noncomputable def n_69_20 : e_Y := u_if y_le0 (u_old2 (o_ifgt 23 27) 23 (u_at 23) n_69_27) (u_at 23) n_69_27
theorem t_69_20 : e_Sn 69 20 (e_un n_69_20) := u_ifgtT rfl (s_ifle (off := (7)) hq_69 (by decide +kernel) rfl rfl : e_Sn 69 20 (o_ifgt 23 27)) u_atT t_69_27
noncomputable def n_69_17 : e_Y := u_getf 12 0 (u_old (o_getf (e_f1 12 0) 20) n_69_20) n_69_20
theorem t_69_17 : e_Sn 69 17 (e_un n_69_17) := u_getfT (s_getf (C := er_12) (T := et_12) (N := 5) (ref := "PlateroomprinterModel") (index := 124) (ci := 12) (k := 0) hq_69 ho_69 ⟨rfl, by decide, ei_12, (List.mem_of_getElem? (i := 1958) (by decide +kernel)), .inl rfl⟩ (by decide +kernel) rfl : e_Sn 69 17 (o_getf (e_f1 12 0) 20)) t_69_20
noncomputable def n_69_16 : e_Y := u_ld f_okA f_l0 n_69_17
theorem t_69_16 : e_Sn 69 16 (e_un n_69_16) := u_ldAT f_l0_eq (s_aload (i := .aload_n 0) (len := 1) hq_69 (by decide +kernel) rfl (.inr ⟨0, rfl, rfl, rfl⟩) : e_Sn 69 16 (o_load e_okR 0 17)) t_69_17
noncomputable def n_69_1 : e_Y := u_if y_ne0 (u_old2 (o_ifeq 16 4) 16 n_69_16 (u_at 4)) n_69_16 (u_at 4)
theorem t_69_1 : e_Sn 69 1 (e_un n_69_1) := u_ifeqT rfl (s_ifeq (off := (15)) hq_69 (by decide +kernel) rfl rfl : e_Sn 69 1 (o_ifeq 16 4)) t_69_16 u_atT
noncomputable def n_69_0 : e_Y := u_ld f_okI f_l1 n_69_1
theorem t_69_0 : e_Sn 69 0 (e_un n_69_0) := u_ldIT f_l1_eq (s_iload (i := .iload_n 1) (len := 1) hq_69 (by decide +kernel) rfl (.inr ⟨1, rfl, rfl, rfl⟩) : e_Sn 69 0 (o_load e_okI 1 1)) t_69_1
noncomputable def e_tb_69 : e_X := (e_lf 0 (e_un n_69_0))
theorem e_tk_69 : e_Tb 69 e_tb_69 := (e_lfT t_69_0)
theorem hq_101 : (e_ml[101]?).map (·.2.1) = some prog_21_method_2_code := rfl
theorem ho_101 : (e_ml[101]?).map (·.1.cls) = some "PlateroomprinterModel$State" := rfl
theorem hr_101 : (e_ml[101]?).map (·.2.2.2) = some (some (.object "PlateroomprinterModel$State")) := rfl
noncomputable def n_101_89 : e_Y := u_retA
theorem t_101_89 : e_Sn 101 89 (e_un n_101_89) := u_retAT (s_aret (.inl ⟨_, rfl⟩) hq_101 hr_101 (by decide +kernel) : e_Sn 101 89 (o_ret e_okR))
noncomputable def n_101_88 : e_Y := u_ld f_okA f_l1 n_101_89
theorem t_101_88 : e_Sn 101 88 (e_un n_101_88) := u_ldAT f_l1_eq (s_aload (i := .aload_n 1) (len := 1) hq_101 (by decide +kernel) rfl (.inr ⟨1, rfl, rfl, rfl⟩) : e_Sn 101 88 (o_load e_okR 1 89)) t_101_89
noncomputable def n_101_85 : e_Y := u_old (o_putf (e_f1 17 5) e_okR 88) n_101_88
theorem t_101_85 : e_Sn 101 85 (e_un n_101_85) := u_oldT (s_putf (ty0 := ey_17) (ok := e_okR) (C := er_17) (T := et_17) (N := 6) (ref := "PlateroomprinterModel$State") (index := 30) (ci := 17) (k := 5) hq_101 ho_101 ⟨rfl, by decide, ei_17, (List.mem_of_getElem? (i := 1803) (by decide +kernel)), .inl rfl⟩ eo_17 en_17 e_oksA (.inl rfl) (by decide +kernel) rfl : e_Sn 101 85 (o_putf (e_f1 17 5) e_okR 88)) t_101_88 (e_cg_putf (e_f1 17 5) e_okR)
noncomputable def n_101_82 : e_Y := u_callS 63 3 22 1 n_63_0 n_101_85
theorem t_101_82 : e_Sn 101 82 (e_un n_101_82) := u_callST rfl (s_callSN (host := "PlateroomprinterModel") (index := 44) hq_101 ho_101 hy_63 hp_63 hc_63 hi_63 hd_63 (List.mem_of_getElem? (i := 2098) (by decide +kernel)) hs_63 (by decide +kernel) rfl : e_Sn 101 82 (o_callS 63 3 1 85)) t_63_0 t_101_85
noncomputable def n_101_79 : e_Y := u_getf 17 5 (u_old (o_getf (e_f1 17 5) 82) n_101_82) n_101_82
theorem t_101_79 : e_Sn 101 79 (e_un n_101_79) := u_getfT (s_getf (C := er_17) (T := et_17) (N := 6) (ref := "PlateroomprinterModel$State") (index := 30) (ci := 17) (k := 5) hq_101 ho_101 ⟨rfl, by decide, ei_17, (List.mem_of_getElem? (i := 1803) (by decide +kernel)), .inl rfl⟩ (by decide +kernel) rfl : e_Sn 101 79 (o_getf (e_f1 17 5) 82)) t_101_82
noncomputable def n_101_78 : e_Y := u_ld f_okA f_l0 n_101_79
theorem t_101_78 : e_Sn 101 78 (e_un n_101_78) := u_ldAT f_l0_eq (s_aload (i := .aload_n 0) (len := 1) hq_101 (by decide +kernel) rfl (.inr ⟨0, rfl, rfl, rfl⟩) : e_Sn 101 78 (o_load e_okR 0 79)) t_101_79
noncomputable def n_101_77 : e_Y := u_ld f_okA f_l1 n_101_78
theorem t_101_77 : e_Sn 101 77 (e_un n_101_77) := u_ldAT f_l1_eq (s_aload (i := .aload_n 1) (len := 1) hq_101 (by decide +kernel) rfl (.inr ⟨1, rfl, rfl, rfl⟩) : e_Sn 101 77 (o_load e_okR 1 78)) t_101_78
noncomputable def n_101_74 : e_Y := u_old (o_putf (e_f1 17 4) e_okR 77) n_101_77
theorem t_101_74 : e_Sn 101 74 (e_un n_101_74) := u_oldT (s_putf (ty0 := ey_17) (ok := e_okR) (C := er_17) (T := et_17) (N := 6) (ref := "PlateroomprinterModel$State") (index := 26) (ci := 17) (k := 4) hq_101 ho_101 ⟨rfl, by decide, ei_17, (List.mem_of_getElem? (i := 1800) (by decide +kernel)), .inl rfl⟩ eo_17 en_17 e_oksA (.inl rfl) (by decide +kernel) rfl : e_Sn 101 74 (o_putf (e_f1 17 4) e_okR 77)) t_101_77 (e_cg_putf (e_f1 17 4) e_okR)
noncomputable def n_101_71 : e_Y := u_callS 63 3 22 1 n_63_0 n_101_74
theorem t_101_71 : e_Sn 101 71 (e_un n_101_71) := u_callST rfl (s_callSN (host := "PlateroomprinterModel") (index := 44) hq_101 ho_101 hy_63 hp_63 hc_63 hi_63 hd_63 (List.mem_of_getElem? (i := 2098) (by decide +kernel)) hs_63 (by decide +kernel) rfl : e_Sn 101 71 (o_callS 63 3 1 74)) t_63_0 t_101_74
noncomputable def n_101_68 : e_Y := u_getf 17 4 (u_old (o_getf (e_f1 17 4) 71) n_101_71) n_101_71
theorem t_101_68 : e_Sn 101 68 (e_un n_101_68) := u_getfT (s_getf (C := er_17) (T := et_17) (N := 6) (ref := "PlateroomprinterModel$State") (index := 26) (ci := 17) (k := 4) hq_101 ho_101 ⟨rfl, by decide, ei_17, (List.mem_of_getElem? (i := 1800) (by decide +kernel)), .inl rfl⟩ (by decide +kernel) rfl : e_Sn 101 68 (o_getf (e_f1 17 4) 71)) t_101_71
noncomputable def n_101_67 : e_Y := u_ld f_okA f_l0 n_101_68
theorem t_101_67 : e_Sn 101 67 (e_un n_101_67) := u_ldAT f_l0_eq (s_aload (i := .aload_n 0) (len := 1) hq_101 (by decide +kernel) rfl (.inr ⟨0, rfl, rfl, rfl⟩) : e_Sn 101 67 (o_load e_okR 0 68)) t_101_68
noncomputable def n_101_66 : e_Y := u_ld f_okA f_l1 n_101_67
theorem t_101_66 : e_Sn 101 66 (e_un n_101_66) := u_ldAT f_l1_eq (s_aload (i := .aload_n 1) (len := 1) hq_101 (by decide +kernel) rfl (.inr ⟨1, rfl, rfl, rfl⟩) : e_Sn 101 66 (o_load e_okR 1 67)) t_101_67
noncomputable def n_101_63 : e_Y := u_old (o_putf (e_f1 17 3) e_okR 66) n_101_66
theorem t_101_63 : e_Sn 101 63 (e_un n_101_63) := u_oldT (s_putf (ty0 := ey_17) (ok := e_okR) (C := er_17) (T := et_17) (N := 6) (ref := "PlateroomprinterModel$State") (index := 22) (ci := 17) (k := 3) hq_101 ho_101 ⟨rfl, by decide, ei_17, (List.mem_of_getElem? (i := 1797) (by decide +kernel)), .inl rfl⟩ eo_17 en_17 e_oksA (.inl rfl) (by decide +kernel) rfl : e_Sn 101 63 (o_putf (e_f1 17 3) e_okR 66)) t_101_66 (e_cg_putf (e_f1 17 3) e_okR)
noncomputable def n_101_60 : e_Y := u_callS 64 3 22 1 n_64_0 n_101_63
theorem t_101_60 : e_Sn 101 60 (e_un n_101_60) := u_callST rfl (s_callSN (host := "PlateroomprinterModel") (index := 41) hq_101 ho_101 hy_64 hp_64 hc_64 hi_64 hd_64 (List.mem_of_getElem? (i := 2095) (by decide +kernel)) hs_64 (by decide +kernel) rfl : e_Sn 101 60 (o_callS 64 3 1 63)) t_64_0 t_101_63
noncomputable def n_101_57 : e_Y := u_getf 17 3 (u_old (o_getf (e_f1 17 3) 60) n_101_60) n_101_60
theorem t_101_57 : e_Sn 101 57 (e_un n_101_57) := u_getfT (s_getf (C := er_17) (T := et_17) (N := 6) (ref := "PlateroomprinterModel$State") (index := 22) (ci := 17) (k := 3) hq_101 ho_101 ⟨rfl, by decide, ei_17, (List.mem_of_getElem? (i := 1797) (by decide +kernel)), .inl rfl⟩ (by decide +kernel) rfl : e_Sn 101 57 (o_getf (e_f1 17 3) 60)) t_101_60
noncomputable def n_101_56 : e_Y := u_ld f_okA f_l0 n_101_57
theorem t_101_56 : e_Sn 101 56 (e_un n_101_56) := u_ldAT f_l0_eq (s_aload (i := .aload_n 0) (len := 1) hq_101 (by decide +kernel) rfl (.inr ⟨0, rfl, rfl, rfl⟩) : e_Sn 101 56 (o_load e_okR 0 57)) t_101_57
noncomputable def n_101_55 : e_Y := u_ld f_okA f_l1 n_101_56
theorem t_101_55 : e_Sn 101 55 (e_un n_101_55) := u_ldAT f_l1_eq (s_aload (i := .aload_n 1) (len := 1) hq_101 (by decide +kernel) rfl (.inr ⟨1, rfl, rfl, rfl⟩) : e_Sn 101 55 (o_load e_okR 1 56)) t_101_56
noncomputable def n_101_52 : e_Y := u_old (o_putf (e_f1 17 2) e_okR 55) n_101_55
theorem t_101_52 : e_Sn 101 52 (e_un n_101_52) := u_oldT (s_putf (ty0 := ey_17) (ok := e_okR) (C := er_17) (T := et_17) (N := 6) (ref := "PlateroomprinterModel$State") (index := 38) (ci := 17) (k := 2) hq_101 ho_101 ⟨rfl, by decide, ei_17, (List.mem_of_getElem? (i := 1794) (by decide +kernel)), .inl rfl⟩ eo_17 en_17 e_oksA (.inl rfl) (by decide +kernel) rfl : e_Sn 101 52 (o_putf (e_f1 17 2) e_okR 55)) t_101_55 (e_cg_putf (e_f1 17 2) e_okR)
noncomputable def n_101_49 : e_Y := u_getf 17 2 (u_old (o_getf (e_f1 17 2) 52) n_101_52) n_101_52
theorem t_101_49 : e_Sn 101 49 (e_un n_101_49) := u_getfT (s_getf (C := er_17) (T := et_17) (N := 6) (ref := "PlateroomprinterModel$State") (index := 38) (ci := 17) (k := 2) hq_101 ho_101 ⟨rfl, by decide, ei_17, (List.mem_of_getElem? (i := 1794) (by decide +kernel)), .inl rfl⟩ (by decide +kernel) rfl : e_Sn 101 49 (o_getf (e_f1 17 2) 52)) t_101_52
noncomputable def n_101_48 : e_Y := u_ld f_okA f_l0 n_101_49
theorem t_101_48 : e_Sn 101 48 (e_un n_101_48) := u_ldAT f_l0_eq (s_aload (i := .aload_n 0) (len := 1) hq_101 (by decide +kernel) rfl (.inr ⟨0, rfl, rfl, rfl⟩) : e_Sn 101 48 (o_load e_okR 0 49)) t_101_49
noncomputable def n_101_47 : e_Y := u_ld f_okA f_l1 n_101_48
theorem t_101_47 : e_Sn 101 47 (e_un n_101_47) := u_ldAT f_l1_eq (s_aload (i := .aload_n 1) (len := 1) hq_101 (by decide +kernel) rfl (.inr ⟨1, rfl, rfl, rfl⟩) : e_Sn 101 47 (o_load e_okR 1 48)) t_101_48
noncomputable def n_101_44 : e_Y := u_old (o_putf (e_f1 17 1) e_okR 47) n_101_47
theorem t_101_44 : e_Sn 101 44 (e_un n_101_44) := u_oldT (s_putf (ty0 := ey_17) (ok := e_okR) (C := er_17) (T := et_17) (N := 6) (ref := "PlateroomprinterModel$State") (index := 18) (ci := 17) (k := 1) hq_101 ho_101 ⟨rfl, by decide, ei_17, (List.mem_of_getElem? (i := 1791) (by decide +kernel)), .inl rfl⟩ eo_17 en_17 e_oksR (.inl rfl) (by decide +kernel) rfl : e_Sn 101 44 (o_putf (e_f1 17 1) e_okR 47)) t_101_47 (e_cg_putf (e_f1 17 1) e_okR)
noncomputable def n_101_41 : e_Y := u_callS 62 5 24 3 n_62_0 n_101_44
theorem t_101_41 : e_Sn 101 41 (e_un n_101_41) := u_callST rfl (s_callSN (host := "PlateroomprinterModel") (index := 34) hq_101 ho_101 hy_62 hp_62 hc_62 hi_62 hd_62 (List.mem_of_getElem? (i := 2063) (by decide +kernel)) hs_62 (by decide +kernel) rfl : e_Sn 101 41 (o_callS 62 5 3 44)) t_62_0 t_101_44
noncomputable def n_101_40 : e_Y := u_push (.inl 2147483648) n_101_41
theorem t_101_40 : e_Sn 101 40 (e_un n_101_40) := u_pushT (s_iconst (n := (0)) hq_101 (by decide +kernel) rfl ⟨by decide +kernel, by decide +kernel⟩ : e_Sn 101 40 (o_push (.inl 2147483648) 41)) t_101_41
noncomputable def n_101_39 : e_Y := u_push (.inl 2147483648) n_101_40
theorem t_101_39 : e_Sn 101 39 (e_un n_101_39) := u_pushT (s_iconst (n := (0)) hq_101 (by decide +kernel) rfl ⟨by decide +kernel, by decide +kernel⟩ : e_Sn 101 39 (o_push (.inl 2147483648) 40)) t_101_40
noncomputable def n_101_36 : e_Y := u_getf 17 1 (u_old (o_getf (e_f1 17 1) 39) n_101_39) n_101_39
theorem t_101_36 : e_Sn 101 36 (e_un n_101_36) := u_getfT (s_getf (C := er_17) (T := et_17) (N := 6) (ref := "PlateroomprinterModel$State") (index := 18) (ci := 17) (k := 1) hq_101 ho_101 ⟨rfl, by decide, ei_17, (List.mem_of_getElem? (i := 1791) (by decide +kernel)), .inl rfl⟩ (by decide +kernel) rfl : e_Sn 101 36 (o_getf (e_f1 17 1) 39)) t_101_39
noncomputable def n_101_35 : e_Y := u_ld f_okA f_l0 n_101_36
theorem t_101_35 : e_Sn 101 35 (e_un n_101_35) := u_ldAT f_l0_eq (s_aload (i := .aload_n 0) (len := 1) hq_101 (by decide +kernel) rfl (.inr ⟨0, rfl, rfl, rfl⟩) : e_Sn 101 35 (o_load e_okR 0 36)) t_101_36
noncomputable def n_101_34 : e_Y := u_ld f_okA f_l1 n_101_35
theorem t_101_34 : e_Sn 101 34 (e_un n_101_34) := u_ldAT f_l1_eq (s_aload (i := .aload_n 1) (len := 1) hq_101 (by decide +kernel) rfl (.inr ⟨1, rfl, rfl, rfl⟩) : e_Sn 101 34 (o_load e_okR 1 35)) t_101_35
noncomputable def n_101_31 : e_Y := (u_at 10)
theorem t_101_31 : e_Sn 101 31 (e_un n_101_31) := u_gotoT (s_goto (off := (-21)) hq_101 (by decide +kernel) rfl : e_Sn 101 31 (o_goto 10)) u_atT
noncomputable def n_101_28 : e_Y := u_inc f_l2 f_s2 1 n_101_31
theorem t_101_28 : e_Sn 101 28 (e_un n_101_28) := u_incT f_l2_eq (fun _ _ _ => f_s2_eq) (s_iinc (zz := (1)) hq_101 (by decide +kernel) rfl (by decide +kernel) ⟨by decide, by decide⟩ : e_Sn 101 28 (o_iinc 2 1 31)) t_101_31
noncomputable def n_101_27 : e_Y := u_old (o_ast 2 e_okL 28) n_101_28
theorem t_101_27 : e_Sn 101 27 (e_un n_101_27) := u_oldT (s_last hq_101 (by decide +kernel) rfl : e_Sn 101 27 (o_ast 2 e_okL 28)) t_101_28 (e_cg_ast 2 e_okL)
noncomputable def n_101_26 : e_Y := u_ald 2 (u_old (o_aldO 2 27) n_101_27) n_101_27
theorem t_101_26 : e_Sn 101 26 (e_un n_101_26) := u_aldOT (s_lald hq_101 (by decide +kernel) rfl : e_Sn 101 26 (o_aldO 2 27)) t_101_27
noncomputable def n_101_25 : e_Y := u_ld f_okI f_l2 n_101_26
theorem t_101_25 : e_Sn 101 25 (e_un n_101_25) := u_ldIT f_l2_eq (s_iload (i := .iload_n 2) (len := 1) hq_101 (by decide +kernel) rfl (.inr ⟨2, rfl, rfl, rfl⟩) : e_Sn 101 25 (o_load e_okI 2 26)) t_101_26
noncomputable def n_101_22 : e_Y := u_getf 17 0 (u_old (o_getf (e_f1 17 0) 25) n_101_25) n_101_25
theorem t_101_22 : e_Sn 101 22 (e_un n_101_22) := u_getfT (s_getf (C := er_17) (T := et_17) (N := 6) (ref := "PlateroomprinterModel$State") (index := 9) (ci := 17) (k := 0) hq_101 ho_101 ⟨rfl, by decide, ei_17, (List.mem_of_getElem? (i := 1789) (by decide +kernel)), .inl rfl⟩ (by decide +kernel) rfl : e_Sn 101 22 (o_getf (e_f1 17 0) 25)) t_101_25
noncomputable def n_101_21 : e_Y := u_ld f_okA f_l0 n_101_22
theorem t_101_21 : e_Sn 101 21 (e_un n_101_21) := u_ldAT f_l0_eq (s_aload (i := .aload_n 0) (len := 1) hq_101 (by decide +kernel) rfl (.inr ⟨0, rfl, rfl, rfl⟩) : e_Sn 101 21 (o_load e_okR 0 22)) t_101_22
noncomputable def n_101_20 : e_Y := u_ld f_okI f_l2 n_101_21
theorem t_101_20 : e_Sn 101 20 (e_un n_101_20) := u_ldIT f_l2_eq (s_iload (i := .iload_n 2) (len := 1) hq_101 (by decide +kernel) rfl (.inr ⟨2, rfl, rfl, rfl⟩) : e_Sn 101 20 (o_load e_okI 2 21)) t_101_21
noncomputable def n_101_17 : e_Y := u_getf 17 0 (u_old (o_getf (e_f1 17 0) 20) n_101_20) n_101_20
theorem t_101_17 : e_Sn 101 17 (e_un n_101_17) := u_getfT (s_getf (C := er_17) (T := et_17) (N := 6) (ref := "PlateroomprinterModel$State") (index := 9) (ci := 17) (k := 0) hq_101 ho_101 ⟨rfl, by decide, ei_17, (List.mem_of_getElem? (i := 1789) (by decide +kernel)), .inl rfl⟩ (by decide +kernel) rfl : e_Sn 101 17 (o_getf (e_f1 17 0) 20)) t_101_20
noncomputable def n_101_16 : e_Y := u_ld f_okA f_l1 n_101_17
theorem t_101_16 : e_Sn 101 16 (e_un n_101_16) := u_ldAT f_l1_eq (s_aload (i := .aload_n 1) (len := 1) hq_101 (by decide +kernel) rfl (.inr ⟨1, rfl, rfl, rfl⟩) : e_Sn 101 16 (o_load e_okR 1 17)) t_101_17
noncomputable def n_101_13 : e_Y := u_jmp y_ge (u_old2 (o_clt 16 34) 16 n_101_16 n_101_34) n_101_16 n_101_34
theorem t_101_13 : e_Sn 101 13 (e_un n_101_13) := u_cltT rfl (s_cge (off := (21)) hq_101 (by decide +kernel) rfl rfl : e_Sn 101 13 (o_clt 16 34)) t_101_16 t_101_34
noncomputable def n_101_11 : e_Y := u_push (.inl 2147483660) n_101_13
theorem t_101_11 : e_Sn 101 11 (e_un n_101_11) := u_pushT (s_bipush (n := (12)) hq_101 (by decide +kernel) rfl ⟨by decide +kernel, by decide +kernel⟩ : e_Sn 101 11 (o_push (.inl 2147483660) 13)) t_101_13
noncomputable def n_101_10 : e_Y := u_ld f_okI f_l2 n_101_11
theorem t_101_10 : e_Sn 101 10 (e_un n_101_10) := u_ldIT f_l2_eq (s_iload (i := .iload_n 2) (len := 1) hq_101 (by decide +kernel) rfl (.inr ⟨2, rfl, rfl, rfl⟩) : e_Sn 101 10 (o_load e_okI 2 11)) t_101_11
noncomputable def n_101_9 : e_Y := u_st f_okI f_s2 n_101_10
theorem t_101_9 : e_Sn 101 9 (e_un n_101_9) := u_stIT (fun _ _ _ => f_s2_eq) (s_istore (i := .istore_n 2) (len := 1) hq_101 (by decide +kernel) rfl (.inr ⟨2, rfl, rfl, rfl⟩) : e_Sn 101 9 (o_store e_okI 2 10)) t_101_10
noncomputable def n_101_8 : e_Y := u_push (.inl 2147483648) n_101_9
theorem t_101_8 : e_Sn 101 8 (e_un n_101_8) := u_pushT (s_iconst (n := (0)) hq_101 (by decide +kernel) rfl ⟨by decide +kernel, by decide +kernel⟩ : e_Sn 101 8 (o_push (.inl 2147483648) 9)) t_101_9
noncomputable def n_101_7 : e_Y := u_st f_okA f_s1 n_101_8
theorem t_101_7 : e_Sn 101 7 (e_un n_101_7) := u_stAT (fun _ _ _ => f_s1_eq) (s_astore (i := .astore_n 1) (len := 1) hq_101 (by decide +kernel) rfl (.inr ⟨1, rfl, rfl, rfl⟩) : e_Sn 101 7 (o_store e_okR 1 8)) t_101_8
noncomputable def n_101_4 : e_Y := u_tab (o_callI 100 2 1 7)
theorem t_101_4 : e_Sn 101 4 (e_un n_101_4) := u_tabT (s_callI (index := 33) hq_101 ho_101 hy_100 hp_100 hc_100 hi_100 hd_100 (List.mem_of_getElem? (i := 2062) (by decide +kernel)) rfl rfl hs_100 (by decide +kernel) rfl : e_Sn 101 4 (o_callI 100 2 1 7))
noncomputable def n_101_3 : e_Y := u_old (o_dup 4) n_101_4
theorem t_101_3 : e_Sn 101 3 (e_un n_101_3) := u_oldT (s_dup hq_101 (by decide +kernel) rfl : e_Sn 101 3 (o_dup 4)) t_101_4 e_cg_dup
noncomputable def n_101_0 : e_Y := u_tab (o_new 17 6 ef_17 3)
theorem t_101_0 : e_Sn 101 0 (e_un n_101_0) := u_tabT (s_new (index := 10) (ci := 17) (N := 6) (C := er_17) (T := et_17) (ty0 := ey_17) (fv := eg_17) hq_101 ho_101 rfl ei_17 eo_17 (List.mem_of_getElem? (i := 2061) (by decide +kernel)) (List.mem_of_getElem? (i := 1782) (by decide +kernel)) (List.mem_of_getElem? (i := 156) (by decide +kernel)) eh_17 rfl (e_newrel ek_17) (by decide +kernel) rfl : e_Sn 101 0 (o_new 17 6 ef_17 3))
noncomputable def e_tb_101 : e_X := (e_br 7 (e_br 3 (e_lf 0 (e_un n_101_0)) (e_lf 3 (e_un n_101_3))) (e_br 10 (e_lf 7 (e_un n_101_7)) (e_lf 10 (e_un n_101_10))))
theorem e_tk_101 : e_Tb 101 e_tb_101 := (e_brT (e_brT (e_lfT t_101_0) (e_lfT t_101_3)) (e_brT (e_lfT t_101_7) (e_lfT t_101_10)))
theorem hq_109 : (e_ml[109]?).map (·.2.1) = some prog_50_method_18_code := rfl
theorem ho_109 : (e_ml[109]?).map (·.1.cls) = some "java/util/ArrayList" := rfl
theorem hr_109 : (e_ml[109]?).map (·.2.2.2) = some (some (.object "java/lang/Object")) := rfl
noncomputable def n_109_6 : e_Y := u_retA
theorem t_109_6 : e_Sn 109 6 (e_un n_109_6) := u_retAT (s_aret (.inl ⟨_, rfl⟩) hq_109 hr_109 (by decide +kernel) : e_Sn 109 6 (o_ret e_okR))
noncomputable def n_109_5 : e_Y := u_ald 3 (u_old (o_aldO 3 6) n_109_6) n_109_6
theorem t_109_5 : e_Sn 109 5 (e_un n_109_5) := u_aldOT (s_aald (tc := 0) rfl hq_109 (by decide +kernel) rfl : e_Sn 109 5 (o_aldO 3 6)) t_109_6
noncomputable def n_109_4 : e_Y := u_ld f_okI f_l1 n_109_5
theorem t_109_4 : e_Sn 109 4 (e_un n_109_4) := u_ldIT f_l1_eq (s_iload (i := .iload_n 1) (len := 1) hq_109 (by decide +kernel) rfl (.inr ⟨1, rfl, rfl, rfl⟩) : e_Sn 109 4 (o_load e_okI 1 5)) t_109_5
noncomputable def n_109_1 : e_Y := u_getf 19 0 (u_old (o_getf (e_f1 19 0) 4) n_109_4) n_109_4
theorem t_109_1 : e_Sn 109 1 (e_un n_109_1) := u_getfT (s_getf (C := er_19) (T := et_19) (N := 3) (ref := "java/util/ArrayList") (index := 9) (ci := 19) (k := 0) hq_109 ho_109 ⟨rfl, by decide, ei_19, (List.mem_of_getElem? (i := 1764) (by decide +kernel)), .inl rfl⟩ (by decide +kernel) rfl : e_Sn 109 1 (o_getf (e_f1 19 0) 4)) t_109_4
noncomputable def n_109_0 : e_Y := u_ld f_okA f_l0 n_109_1
theorem t_109_0 : e_Sn 109 0 (e_un n_109_0) := u_ldAT f_l0_eq (s_aload (i := .aload_n 0) (len := 1) hq_109 (by decide +kernel) rfl (.inr ⟨0, rfl, rfl, rfl⟩) : e_Sn 109 0 (o_load e_okR 0 1)) t_109_1
noncomputable def e_tb_109 : e_X := (e_lf 0 (e_un n_109_0))
theorem e_tk_109 : e_Tb 109 e_tb_109 := (e_lfT t_109_0)
theorem hq_119 : (e_ml[119]?).map (·.2.1) = some prog_60_method_11_code := rfl
theorem ho_119 : (e_ml[119]?).map (·.1.cls) = some "jdk/internal/util/Preconditions" := rfl
theorem hr_119 : (e_ml[119]?).map (·.2.2.2) = some (some .int) := rfl
noncomputable def n_119_17 : e_Y := u_retI
theorem t_119_17 : e_Sn 119 17 (e_un n_119_17) := u_retIT (s_iret hq_119 hr_119 (by decide +kernel) : e_Sn 119 17 (o_ret e_okI))
noncomputable def n_119_16 : e_Y := u_ld f_okI f_l0 n_119_17
theorem t_119_16 : e_Sn 119 16 (e_un n_119_16) := u_ldIT f_l0_eq (s_iload (i := .iload_n 0) (len := 1) hq_119 (by decide +kernel) rfl (.inr ⟨0, rfl, rfl, rfl⟩) : e_Sn 119 16 (o_load e_okI 0 17)) t_119_17
noncomputable def n_119_6 : e_Y := u_jmp y_ge (u_old2 (o_clt 16 9) 16 n_119_16 (u_at 9)) n_119_16 (u_at 9)
theorem t_119_6 : e_Sn 119 6 (e_un n_119_6) := u_cltT rfl (s_clt (off := (10)) hq_119 (by decide +kernel) rfl rfl : e_Sn 119 6 (o_clt 16 9)) t_119_16 u_atT
noncomputable def n_119_5 : e_Y := u_ld f_okI f_l1 n_119_6
theorem t_119_5 : e_Sn 119 5 (e_un n_119_5) := u_ldIT f_l1_eq (s_iload (i := .iload_n 1) (len := 1) hq_119 (by decide +kernel) rfl (.inr ⟨1, rfl, rfl, rfl⟩) : e_Sn 119 5 (o_load e_okI 1 6)) t_119_6
noncomputable def n_119_4 : e_Y := u_ld f_okI f_l0 n_119_5
theorem t_119_4 : e_Sn 119 4 (e_un n_119_4) := u_ldIT f_l0_eq (s_iload (i := .iload_n 0) (len := 1) hq_119 (by decide +kernel) rfl (.inr ⟨0, rfl, rfl, rfl⟩) : e_Sn 119 4 (o_load e_okI 0 5)) t_119_5
noncomputable def n_119_1 : e_Y := u_if y_ge0 (u_old2 (o_iflt 9 4) 9 (u_at 9) n_119_4) (u_at 9) n_119_4
theorem t_119_1 : e_Sn 119 1 (e_un n_119_1) := u_ifltT rfl (s_iflt (off := (8)) hq_119 (by decide +kernel) rfl rfl : e_Sn 119 1 (o_iflt 9 4)) u_atT t_119_4
noncomputable def n_119_0 : e_Y := u_ld f_okI f_l0 n_119_1
theorem t_119_0 : e_Sn 119 0 (e_un n_119_0) := u_ldIT f_l0_eq (s_iload (i := .iload_n 0) (len := 1) hq_119 (by decide +kernel) rfl (.inr ⟨0, rfl, rfl, rfl⟩) : e_Sn 119 0 (o_load e_okI 0 1)) t_119_1
noncomputable def e_tb_119 : e_X := (e_lf 0 (e_un n_119_0))
theorem e_tk_119 : e_Tb 119 e_tb_119 := (e_lfT t_119_0)
theorem hq_118 : (e_ml[118]?).map (·.2.1) = some prog_56_method_17_code := rfl
theorem ho_118 : (e_ml[118]?).map (·.1.cls) = some "java/util/Objects" := rfl
theorem hr_118 : (e_ml[118]?).map (·.2.2.2) = some (some .int) := rfl
noncomputable def n_118_6 : e_Y := u_retI
theorem t_118_6 : e_Sn 118 6 (e_un n_118_6) := u_retIT (s_iret hq_118 hr_118 (by decide +kernel) : e_Sn 118 6 (o_ret e_okI))
noncomputable def n_118_3 : e_Y := u_callS 119 3 22 3 n_119_0 n_118_6
theorem t_118_3 : e_Sn 118 3 (e_un n_118_3) := u_callST rfl (s_callS (index := 105) hq_118 ho_118 hy_119 hp_119 hc_119 hi_119 hd_119 (List.mem_of_getElem? (i := 2024) (by decide +kernel)) hs_119 (by decide +kernel) rfl : e_Sn 118 3 (o_callS 119 3 3 6)) t_119_0 t_118_6
noncomputable def n_118_2 : e_Y := u_push e_N n_118_3
theorem t_118_2 : e_Sn 118 2 (e_un n_118_2) := u_pushT (s_null hq_118 (by decide +kernel) rfl : e_Sn 118 2 (o_push e_N 3)) t_118_3
noncomputable def n_118_1 : e_Y := u_ld f_okI f_l1 n_118_2
theorem t_118_1 : e_Sn 118 1 (e_un n_118_1) := u_ldIT f_l1_eq (s_iload (i := .iload_n 1) (len := 1) hq_118 (by decide +kernel) rfl (.inr ⟨1, rfl, rfl, rfl⟩) : e_Sn 118 1 (o_load e_okI 1 2)) t_118_2
noncomputable def n_118_0 : e_Y := u_ld f_okI f_l0 n_118_1
theorem t_118_0 : e_Sn 118 0 (e_un n_118_0) := u_ldIT f_l0_eq (s_iload (i := .iload_n 0) (len := 1) hq_118 (by decide +kernel) rfl (.inr ⟨0, rfl, rfl, rfl⟩) : e_Sn 118 0 (o_load e_okI 0 1)) t_118_1
noncomputable def e_tb_118 : e_X := (e_lf 0 (e_un n_118_0))
theorem e_tk_118 : e_Tb 118 e_tb_118 := (e_lfT t_118_0)
theorem hq_111 : (e_ml[111]?).map (·.2.1) = some prog_50_method_20_code := rfl
theorem ho_111 : (e_ml[111]?).map (·.1.cls) = some "java/util/ArrayList" := rfl
theorem hr_111 : (e_ml[111]?).map (·.2.2.2) = some (some (.object "java/lang/Object")) := rfl
noncomputable def n_111_14 : e_Y := u_retA
theorem t_111_14 : e_Sn 111 14 (e_un n_111_14) := u_retAT (s_aret (.inl ⟨_, rfl⟩) hq_111 hr_111 (by decide +kernel) : e_Sn 111 14 (o_ret e_okR))
noncomputable def n_111_11 : e_Y := u_callV 19 109 2 21 2 n_109_0 n_111_14
theorem t_111_11 : e_Sn 111 11 (e_un n_111_11) := u_callVT rfl (s_callV (ci := 19) (C := er_19) (T := et_19) (N := 3) (index := 123) hq_111 ho_111 hy_109 hp_109 hc_109 hi_109 hd_109 (List.mem_of_getElem? (i := 2053) (by decide +kernel)) hs_109 (List.mem_of_getElem? (i := 2055) (by decide +kernel)) rfl (by decide +kernel) rfl : e_Sn 111 11 (o_callV (e_s1 19 109 2) 2 14)) t_109_0 t_111_14
noncomputable def n_111_10 : e_Y := u_ld f_okI f_l1 n_111_11
theorem t_111_10 : e_Sn 111 10 (e_un n_111_10) := u_ldIT f_l1_eq (s_iload (i := .iload_n 1) (len := 1) hq_111 (by decide +kernel) rfl (.inr ⟨1, rfl, rfl, rfl⟩) : e_Sn 111 10 (o_load e_okI 1 11)) t_111_11
noncomputable def n_111_9 : e_Y := u_ld f_okA f_l0 n_111_10
theorem t_111_9 : e_Sn 111 9 (e_un n_111_9) := u_ldAT f_l0_eq (s_aload (i := .aload_n 0) (len := 1) hq_111 (by decide +kernel) rfl (.inr ⟨0, rfl, rfl, rfl⟩) : e_Sn 111 9 (o_load e_okR 0 10)) t_111_10
noncomputable def n_111_8 : e_Y := u_pop n_111_9
theorem t_111_8 : e_Sn 111 8 (e_un n_111_8) := u_popT (s_pop hq_111 (by decide +kernel) rfl : e_Sn 111 8 (o_pop 9)) t_111_9
noncomputable def n_111_5 : e_Y := u_callS 118 2 21 2 n_118_0 n_111_8
theorem t_111_5 : e_Sn 111 5 (e_un n_111_5) := u_callST rfl (s_callS (index := 118) hq_111 ho_111 hy_118 hp_118 hc_118 hi_118 hd_118 (List.mem_of_getElem? (i := 2021) (by decide +kernel)) hs_118 (by decide +kernel) rfl : e_Sn 111 5 (o_callS 118 2 2 8)) t_118_0 t_111_8
noncomputable def n_111_2 : e_Y := u_getf 19 1 (u_old (o_getf (e_f1 19 1) 5) n_111_5) n_111_5
theorem t_111_2 : e_Sn 111 2 (e_un n_111_2) := u_getfT (s_getf (C := er_19) (T := et_19) (N := 3) (ref := "java/util/ArrayList") (index := 48) (ci := 19) (k := 1) hq_111 ho_111 ⟨rfl, by decide, ei_19, (List.mem_of_getElem? (i := 1767) (by decide +kernel)), .inl rfl⟩ (by decide +kernel) rfl : e_Sn 111 2 (o_getf (e_f1 19 1) 5)) t_111_5
noncomputable def n_111_1 : e_Y := u_ld f_okA f_l0 n_111_2
theorem t_111_1 : e_Sn 111 1 (e_un n_111_1) := u_ldAT f_l0_eq (s_aload (i := .aload_n 0) (len := 1) hq_111 (by decide +kernel) rfl (.inr ⟨0, rfl, rfl, rfl⟩) : e_Sn 111 1 (o_load e_okR 0 2)) t_111_2
noncomputable def n_111_0 : e_Y := u_ld f_okI f_l1 n_111_1
theorem t_111_0 : e_Sn 111 0 (e_un n_111_0) := u_ldIT f_l1_eq (s_iload (i := .iload_n 1) (len := 1) hq_111 (by decide +kernel) rfl (.inr ⟨1, rfl, rfl, rfl⟩) : e_Sn 111 0 (o_load e_okI 1 1)) t_111_1
noncomputable def e_tb_111 : e_X := (e_lf 0 (e_un n_111_0))
theorem e_tk_111 : e_Tb 111 e_tb_111 := (e_lfT t_111_0)
theorem hq_116 : (e_ml[116]?).map (·.2.1) = some prog_50_method_23_code := rfl
theorem ho_116 : (e_ml[116]?).map (·.1.cls) = some "java/util/ArrayList" := rfl
theorem hr_116 : (e_ml[116]?).map (·.2.2.2) = some (some (.object "java/lang/Object")) := rfl
noncomputable def n_116_23 : e_Y := u_retA
theorem t_116_23 : e_Sn 116 23 (e_un n_116_23) := u_retAT (s_aret (.inl ⟨_, rfl⟩) hq_116 hr_116 (by decide +kernel) : e_Sn 116 23 (o_ret e_okR))
noncomputable def n_116_22 : e_Y := u_ld f_okA f_l3 n_116_23
theorem t_116_22 : e_Sn 116 22 (e_un n_116_22) := u_ldAT f_l3_eq (s_aload (i := .aload_n 3) (len := 1) hq_116 (by decide +kernel) rfl (.inr ⟨3, rfl, rfl, rfl⟩) : e_Sn 116 22 (o_load e_okR 3 23)) t_116_23
noncomputable def n_116_21 : e_Y := u_old (o_astR 3 (fun _ => false) 22) n_116_22
theorem t_116_21 : e_Sn 116 21 (e_un n_116_21) := u_oldT (s_aast (tc := 0) (E := "java/lang/Object") hq_116 rfl (by decide) (fun k hk => by cases hk) (by decide +kernel) rfl : e_Sn 116 21 (o_astR 3 (fun _ => false) 22)) t_116_22 (e_cg_astR 3 (fun _ => false))
noncomputable def n_116_20 : e_Y := u_ld f_okA f_l2 n_116_21
theorem t_116_20 : e_Sn 116 20 (e_un n_116_20) := u_ldAT f_l2_eq (s_aload (i := .aload_n 2) (len := 1) hq_116 (by decide +kernel) rfl (.inr ⟨2, rfl, rfl, rfl⟩) : e_Sn 116 20 (o_load e_okR 2 21)) t_116_21
noncomputable def n_116_19 : e_Y := u_ld f_okI f_l1 n_116_20
theorem t_116_19 : e_Sn 116 19 (e_un n_116_19) := u_ldIT f_l1_eq (s_iload (i := .iload_n 1) (len := 1) hq_116 (by decide +kernel) rfl (.inr ⟨1, rfl, rfl, rfl⟩) : e_Sn 116 19 (o_load e_okI 1 20)) t_116_20
noncomputable def n_116_16 : e_Y := u_getf 19 0 (u_old (o_getf (e_f1 19 0) 19) n_116_19) n_116_19
theorem t_116_16 : e_Sn 116 16 (e_un n_116_16) := u_getfT (s_getf (C := er_19) (T := et_19) (N := 3) (ref := "java/util/ArrayList") (index := 9) (ci := 19) (k := 0) hq_116 ho_116 ⟨rfl, by decide, ei_19, (List.mem_of_getElem? (i := 1764) (by decide +kernel)), .inl rfl⟩ (by decide +kernel) rfl : e_Sn 116 16 (o_getf (e_f1 19 0) 19)) t_116_19
noncomputable def n_116_15 : e_Y := u_ld f_okA f_l0 n_116_16
theorem t_116_15 : e_Sn 116 15 (e_un n_116_15) := u_ldAT f_l0_eq (s_aload (i := .aload_n 0) (len := 1) hq_116 (by decide +kernel) rfl (.inr ⟨0, rfl, rfl, rfl⟩) : e_Sn 116 15 (o_load e_okR 0 16)) t_116_16
noncomputable def n_116_14 : e_Y := u_st f_okA f_s3 n_116_15
theorem t_116_14 : e_Sn 116 14 (e_un n_116_14) := u_stAT (fun _ _ _ => f_s3_eq) (s_astore (i := .astore_n 3) (len := 1) hq_116 (by decide +kernel) rfl (.inr ⟨3, rfl, rfl, rfl⟩) : e_Sn 116 14 (o_store e_okR 3 15)) t_116_15
noncomputable def n_116_11 : e_Y := u_callV 19 109 2 21 2 n_109_0 n_116_14
theorem t_116_11 : e_Sn 116 11 (e_un n_116_11) := u_callVT rfl (s_callV (ci := 19) (C := er_19) (T := et_19) (N := 3) (index := 123) hq_116 ho_116 hy_109 hp_109 hc_109 hi_109 hd_109 (List.mem_of_getElem? (i := 2053) (by decide +kernel)) hs_109 (List.mem_of_getElem? (i := 2055) (by decide +kernel)) rfl (by decide +kernel) rfl : e_Sn 116 11 (o_callV (e_s1 19 109 2) 2 14)) t_109_0 t_116_14
noncomputable def n_116_10 : e_Y := u_ld f_okI f_l1 n_116_11
theorem t_116_10 : e_Sn 116 10 (e_un n_116_10) := u_ldIT f_l1_eq (s_iload (i := .iload_n 1) (len := 1) hq_116 (by decide +kernel) rfl (.inr ⟨1, rfl, rfl, rfl⟩) : e_Sn 116 10 (o_load e_okI 1 11)) t_116_11
noncomputable def n_116_9 : e_Y := u_ld f_okA f_l0 n_116_10
theorem t_116_9 : e_Sn 116 9 (e_un n_116_9) := u_ldAT f_l0_eq (s_aload (i := .aload_n 0) (len := 1) hq_116 (by decide +kernel) rfl (.inr ⟨0, rfl, rfl, rfl⟩) : e_Sn 116 9 (o_load e_okR 0 10)) t_116_10
noncomputable def n_116_8 : e_Y := u_pop n_116_9
theorem t_116_8 : e_Sn 116 8 (e_un n_116_8) := u_popT (s_pop hq_116 (by decide +kernel) rfl : e_Sn 116 8 (o_pop 9)) t_116_9
noncomputable def n_116_5 : e_Y := u_callS 118 2 21 2 n_118_0 n_116_8
theorem t_116_5 : e_Sn 116 5 (e_un n_116_5) := u_callST rfl (s_callS (index := 118) hq_116 ho_116 hy_118 hp_118 hc_118 hi_118 hd_118 (List.mem_of_getElem? (i := 2021) (by decide +kernel)) hs_118 (by decide +kernel) rfl : e_Sn 116 5 (o_callS 118 2 2 8)) t_118_0 t_116_8
noncomputable def n_116_2 : e_Y := u_getf 19 1 (u_old (o_getf (e_f1 19 1) 5) n_116_5) n_116_5
theorem t_116_2 : e_Sn 116 2 (e_un n_116_2) := u_getfT (s_getf (C := er_19) (T := et_19) (N := 3) (ref := "java/util/ArrayList") (index := 48) (ci := 19) (k := 1) hq_116 ho_116 ⟨rfl, by decide, ei_19, (List.mem_of_getElem? (i := 1767) (by decide +kernel)), .inl rfl⟩ (by decide +kernel) rfl : e_Sn 116 2 (o_getf (e_f1 19 1) 5)) t_116_5
noncomputable def n_116_1 : e_Y := u_ld f_okA f_l0 n_116_2
theorem t_116_1 : e_Sn 116 1 (e_un n_116_1) := u_ldAT f_l0_eq (s_aload (i := .aload_n 0) (len := 1) hq_116 (by decide +kernel) rfl (.inr ⟨0, rfl, rfl, rfl⟩) : e_Sn 116 1 (o_load e_okR 0 2)) t_116_2
noncomputable def n_116_0 : e_Y := u_ld f_okI f_l1 n_116_1
theorem t_116_0 : e_Sn 116 0 (e_un n_116_0) := u_ldIT f_l1_eq (s_iload (i := .iload_n 1) (len := 1) hq_116 (by decide +kernel) rfl (.inr ⟨1, rfl, rfl, rfl⟩) : e_Sn 116 0 (o_load e_okI 1 1)) t_116_1
noncomputable def e_tb_116 : e_X := (e_lf 0 (e_un n_116_0))
theorem e_tk_116 : e_Tb 116 e_tb_116 := (e_lfT t_116_0)
theorem hq_77 : (e_ml[77]?).map (·.2.1) = some prog_17_method_2_code := rfl
theorem ho_77 : (e_ml[77]?).map (·.1.cls) = some "PlateroomprinterModel$Machine" := rfl
theorem hr_77 : (e_ml[77]?).map (·.2.2.2) = some (some (.object "PlateroomprinterModel$Machine")) := rfl
noncomputable def n_77_258 : e_Y := u_retA
theorem t_77_258 : e_Sn 77 258 (e_un n_77_258) := u_retAT (s_aret (.inl ⟨_, rfl⟩) hq_77 hr_77 (by decide +kernel) : e_Sn 77 258 (o_ret e_okR))
noncomputable def n_77_257 : e_Y := u_ld f_okA f_l1 n_77_258
theorem t_77_257 : e_Sn 77 257 (e_un n_77_257) := u_ldAT f_l1_eq (s_aload (i := .aload_n 1) (len := 1) hq_77 (by decide +kernel) rfl (.inr ⟨1, rfl, rfl, rfl⟩) : e_Sn 77 257 (o_load e_okR 1 258)) t_77_258
noncomputable def n_77_254 : e_Y := u_old (o_putf (e_f1 14 12) e_okR 257) n_77_257
theorem t_77_254 : e_Sn 77 254 (e_un n_77_254) := u_oldT (s_putf (ty0 := ey_14) (ok := e_okR) (C := er_14) (T := et_14) (N := 13) (ref := "PlateroomprinterModel$Machine") (index := 44) (ci := 14) (k := 12) hq_77 ho_77 ⟨rfl, by decide, ei_14, (List.mem_of_getElem? (i := 1926) (by decide +kernel)), .inl rfl⟩ eo_14 en_14 e_oksA (.inl rfl) (by decide +kernel) rfl : e_Sn 77 254 (o_putf (e_f1 14 12) e_okR 257)) t_77_257 (e_cg_putf (e_f1 14 12) e_okR)
noncomputable def n_77_251 : e_Y := u_callS 63 3 22 1 n_63_0 n_77_254
theorem t_77_251 : e_Sn 77 251 (e_un n_77_251) := u_callST rfl (s_callSN (host := "PlateroomprinterModel") (index := 91) hq_77 ho_77 hy_63 hp_63 hc_63 hi_63 hd_63 (List.mem_of_getElem? (i := 2107) (by decide +kernel)) hs_63 (by decide +kernel) rfl : e_Sn 77 251 (o_callS 63 3 1 254)) t_63_0 t_77_254
noncomputable def n_77_248 : e_Y := u_getf 14 12 (u_old (o_getf (e_f1 14 12) 251) n_77_251) n_77_251
theorem t_77_248 : e_Sn 77 248 (e_un n_77_248) := u_getfT (s_getf (C := er_14) (T := et_14) (N := 13) (ref := "PlateroomprinterModel$Machine") (index := 44) (ci := 14) (k := 12) hq_77 ho_77 ⟨rfl, by decide, ei_14, (List.mem_of_getElem? (i := 1926) (by decide +kernel)), .inl rfl⟩ (by decide +kernel) rfl : e_Sn 77 248 (o_getf (e_f1 14 12) 251)) t_77_251
noncomputable def n_77_247 : e_Y := u_ld f_okA f_l0 n_77_248
theorem t_77_247 : e_Sn 77 247 (e_un n_77_247) := u_ldAT f_l0_eq (s_aload (i := .aload_n 0) (len := 1) hq_77 (by decide +kernel) rfl (.inr ⟨0, rfl, rfl, rfl⟩) : e_Sn 77 247 (o_load e_okR 0 248)) t_77_248
noncomputable def n_77_246 : e_Y := u_ld f_okA f_l1 n_77_247
theorem t_77_246 : e_Sn 77 246 (e_un n_77_246) := u_ldAT f_l1_eq (s_aload (i := .aload_n 1) (len := 1) hq_77 (by decide +kernel) rfl (.inr ⟨1, rfl, rfl, rfl⟩) : e_Sn 77 246 (o_load e_okR 1 247)) t_77_247
noncomputable def n_77_243 : e_Y := u_old (o_putf (e_f1 14 11) e_okI 246) n_77_246
theorem t_77_243 : e_Sn 77 243 (e_un n_77_243) := u_oldT (s_putf (ty0 := ey_14) (ok := e_okI) (C := er_14) (T := et_14) (N := 13) (ref := "PlateroomprinterModel$Machine") (index := 88) (ci := 14) (k := 11) hq_77 ho_77 ⟨rfl, by decide, ei_14, (List.mem_of_getElem? (i := 1923) (by decide +kernel)), .inl rfl⟩ eo_14 en_14 e_oksI (.inl rfl) (by decide +kernel) rfl : e_Sn 77 243 (o_putf (e_f1 14 11) e_okI 246)) t_77_246 (e_cg_putf (e_f1 14 11) e_okI)
noncomputable def n_77_240 : e_Y := u_getf 14 11 (u_old (o_getf (e_f1 14 11) 243) n_77_243) n_77_243
theorem t_77_240 : e_Sn 77 240 (e_un n_77_240) := u_getfT (s_getf (C := er_14) (T := et_14) (N := 13) (ref := "PlateroomprinterModel$Machine") (index := 88) (ci := 14) (k := 11) hq_77 ho_77 ⟨rfl, by decide, ei_14, (List.mem_of_getElem? (i := 1923) (by decide +kernel)), .inl rfl⟩ (by decide +kernel) rfl : e_Sn 77 240 (o_getf (e_f1 14 11) 243)) t_77_243
noncomputable def n_77_239 : e_Y := u_ld f_okA f_l0 n_77_240
theorem t_77_239 : e_Sn 77 239 (e_un n_77_239) := u_ldAT f_l0_eq (s_aload (i := .aload_n 0) (len := 1) hq_77 (by decide +kernel) rfl (.inr ⟨0, rfl, rfl, rfl⟩) : e_Sn 77 239 (o_load e_okR 0 240)) t_77_240
noncomputable def n_77_238 : e_Y := u_ld f_okA f_l1 n_77_239
theorem t_77_238 : e_Sn 77 238 (e_un n_77_238) := u_ldAT f_l1_eq (s_aload (i := .aload_n 1) (len := 1) hq_77 (by decide +kernel) rfl (.inr ⟨1, rfl, rfl, rfl⟩) : e_Sn 77 238 (o_load e_okR 1 239)) t_77_239
noncomputable def n_77_235 : e_Y := u_old (o_putf (e_f1 14 10) e_okI 238) n_77_238
theorem t_77_235 : e_Sn 77 235 (e_un n_77_235) := u_oldT (s_putf (ty0 := ey_14) (ok := e_okI) (C := er_14) (T := et_14) (N := 13) (ref := "PlateroomprinterModel$Machine") (index := 85) (ci := 14) (k := 10) hq_77 ho_77 ⟨rfl, by decide, ei_14, (List.mem_of_getElem? (i := 1920) (by decide +kernel)), .inl rfl⟩ eo_14 en_14 e_oksI (.inl rfl) (by decide +kernel) rfl : e_Sn 77 235 (o_putf (e_f1 14 10) e_okI 238)) t_77_238 (e_cg_putf (e_f1 14 10) e_okI)
noncomputable def n_77_232 : e_Y := u_getf 14 10 (u_old (o_getf (e_f1 14 10) 235) n_77_235) n_77_235
theorem t_77_232 : e_Sn 77 232 (e_un n_77_232) := u_getfT (s_getf (C := er_14) (T := et_14) (N := 13) (ref := "PlateroomprinterModel$Machine") (index := 85) (ci := 14) (k := 10) hq_77 ho_77 ⟨rfl, by decide, ei_14, (List.mem_of_getElem? (i := 1920) (by decide +kernel)), .inl rfl⟩ (by decide +kernel) rfl : e_Sn 77 232 (o_getf (e_f1 14 10) 235)) t_77_235
noncomputable def n_77_231 : e_Y := u_ld f_okA f_l0 n_77_232
theorem t_77_231 : e_Sn 77 231 (e_un n_77_231) := u_ldAT f_l0_eq (s_aload (i := .aload_n 0) (len := 1) hq_77 (by decide +kernel) rfl (.inr ⟨0, rfl, rfl, rfl⟩) : e_Sn 77 231 (o_load e_okR 0 232)) t_77_232
noncomputable def n_77_230 : e_Y := u_ld f_okA f_l1 n_77_231
theorem t_77_230 : e_Sn 77 230 (e_un n_77_230) := u_ldAT f_l1_eq (s_aload (i := .aload_n 1) (len := 1) hq_77 (by decide +kernel) rfl (.inr ⟨1, rfl, rfl, rfl⟩) : e_Sn 77 230 (o_load e_okR 1 231)) t_77_231
noncomputable def n_77_227 : e_Y := u_old (o_putf (e_f1 14 9) e_okI 230) n_77_230
theorem t_77_227 : e_Sn 77 227 (e_un n_77_227) := u_oldT (s_putf (ty0 := ey_14) (ok := e_okI) (C := er_14) (T := et_14) (N := 13) (ref := "PlateroomprinterModel$Machine") (index := 82) (ci := 14) (k := 9) hq_77 ho_77 ⟨rfl, by decide, ei_14, (List.mem_of_getElem? (i := 1917) (by decide +kernel)), .inl rfl⟩ eo_14 en_14 e_oksI (.inl rfl) (by decide +kernel) rfl : e_Sn 77 227 (o_putf (e_f1 14 9) e_okI 230)) t_77_230 (e_cg_putf (e_f1 14 9) e_okI)
noncomputable def n_77_224 : e_Y := u_getf 14 9 (u_old (o_getf (e_f1 14 9) 227) n_77_227) n_77_227
theorem t_77_224 : e_Sn 77 224 (e_un n_77_224) := u_getfT (s_getf (C := er_14) (T := et_14) (N := 13) (ref := "PlateroomprinterModel$Machine") (index := 82) (ci := 14) (k := 9) hq_77 ho_77 ⟨rfl, by decide, ei_14, (List.mem_of_getElem? (i := 1917) (by decide +kernel)), .inl rfl⟩ (by decide +kernel) rfl : e_Sn 77 224 (o_getf (e_f1 14 9) 227)) t_77_227
noncomputable def n_77_223 : e_Y := u_ld f_okA f_l0 n_77_224
theorem t_77_223 : e_Sn 77 223 (e_un n_77_223) := u_ldAT f_l0_eq (s_aload (i := .aload_n 0) (len := 1) hq_77 (by decide +kernel) rfl (.inr ⟨0, rfl, rfl, rfl⟩) : e_Sn 77 223 (o_load e_okR 0 224)) t_77_224
noncomputable def n_77_222 : e_Y := u_ld f_okA f_l1 n_77_223
theorem t_77_222 : e_Sn 77 222 (e_un n_77_222) := u_ldAT f_l1_eq (s_aload (i := .aload_n 1) (len := 1) hq_77 (by decide +kernel) rfl (.inr ⟨1, rfl, rfl, rfl⟩) : e_Sn 77 222 (o_load e_okR 1 223)) t_77_223
noncomputable def n_77_219 : e_Y := u_old (o_putf (e_f1 14 8) e_okI 222) n_77_222
theorem t_77_219 : e_Sn 77 219 (e_un n_77_219) := u_oldT (s_putf (ty0 := ey_14) (ok := e_okI) (C := er_14) (T := et_14) (N := 13) (ref := "PlateroomprinterModel$Machine") (index := 78) (ci := 14) (k := 8) hq_77 ho_77 ⟨rfl, by decide, ei_14, (List.mem_of_getElem? (i := 1914) (by decide +kernel)), .inl rfl⟩ eo_14 en_14 e_oksI (.inl rfl) (by decide +kernel) rfl : e_Sn 77 219 (o_putf (e_f1 14 8) e_okI 222)) t_77_222 (e_cg_putf (e_f1 14 8) e_okI)
noncomputable def n_77_216 : e_Y := u_getf 14 8 (u_old (o_getf (e_f1 14 8) 219) n_77_219) n_77_219
theorem t_77_216 : e_Sn 77 216 (e_un n_77_216) := u_getfT (s_getf (C := er_14) (T := et_14) (N := 13) (ref := "PlateroomprinterModel$Machine") (index := 78) (ci := 14) (k := 8) hq_77 ho_77 ⟨rfl, by decide, ei_14, (List.mem_of_getElem? (i := 1914) (by decide +kernel)), .inl rfl⟩ (by decide +kernel) rfl : e_Sn 77 216 (o_getf (e_f1 14 8) 219)) t_77_219
noncomputable def n_77_215 : e_Y := u_ld f_okA f_l0 n_77_216
theorem t_77_215 : e_Sn 77 215 (e_un n_77_215) := u_ldAT f_l0_eq (s_aload (i := .aload_n 0) (len := 1) hq_77 (by decide +kernel) rfl (.inr ⟨0, rfl, rfl, rfl⟩) : e_Sn 77 215 (o_load e_okR 0 216)) t_77_216
noncomputable def n_77_214 : e_Y := u_ld f_okA f_l1 n_77_215
theorem t_77_214 : e_Sn 77 214 (e_un n_77_214) := u_ldAT f_l1_eq (s_aload (i := .aload_n 1) (len := 1) hq_77 (by decide +kernel) rfl (.inr ⟨1, rfl, rfl, rfl⟩) : e_Sn 77 214 (o_load e_okR 1 215)) t_77_215
noncomputable def n_77_211 : e_Y := u_old (o_putf (e_f1 14 7) e_okR 214) n_77_214
theorem t_77_211 : e_Sn 77 211 (e_un n_77_211) := u_oldT (s_putf (ty0 := ey_14) (ok := e_okR) (C := er_14) (T := et_14) (N := 13) (ref := "PlateroomprinterModel$Machine") (index := 75) (ci := 14) (k := 7) hq_77 ho_77 ⟨rfl, by decide, ei_14, (List.mem_of_getElem? (i := 1911) (by decide +kernel)), .inl rfl⟩ eo_14 en_14 e_oksA (.inl rfl) (by decide +kernel) rfl : e_Sn 77 211 (o_putf (e_f1 14 7) e_okR 214)) t_77_214 (e_cg_putf (e_f1 14 7) e_okR)
noncomputable def n_77_208 : e_Y := u_getf 14 7 (u_old (o_getf (e_f1 14 7) 211) n_77_211) n_77_211
theorem t_77_208 : e_Sn 77 208 (e_un n_77_208) := u_getfT (s_getf (C := er_14) (T := et_14) (N := 13) (ref := "PlateroomprinterModel$Machine") (index := 75) (ci := 14) (k := 7) hq_77 ho_77 ⟨rfl, by decide, ei_14, (List.mem_of_getElem? (i := 1911) (by decide +kernel)), .inl rfl⟩ (by decide +kernel) rfl : e_Sn 77 208 (o_getf (e_f1 14 7) 211)) t_77_211
noncomputable def n_77_207 : e_Y := u_ld f_okA f_l0 n_77_208
theorem t_77_207 : e_Sn 77 207 (e_un n_77_207) := u_ldAT f_l0_eq (s_aload (i := .aload_n 0) (len := 1) hq_77 (by decide +kernel) rfl (.inr ⟨0, rfl, rfl, rfl⟩) : e_Sn 77 207 (o_load e_okR 0 208)) t_77_208
noncomputable def n_77_206 : e_Y := u_ld f_okA f_l1 n_77_207
theorem t_77_206 : e_Sn 77 206 (e_un n_77_206) := u_ldAT f_l1_eq (s_aload (i := .aload_n 1) (len := 1) hq_77 (by decide +kernel) rfl (.inr ⟨1, rfl, rfl, rfl⟩) : e_Sn 77 206 (o_load e_okR 1 207)) t_77_207
noncomputable def n_77_203 : e_Y := u_old (o_putf (e_f1 14 6) e_okR 206) n_77_206
theorem t_77_203 : e_Sn 77 203 (e_un n_77_203) := u_oldT (s_putf (ty0 := ey_14) (ok := e_okR) (C := er_14) (T := et_14) (N := 13) (ref := "PlateroomprinterModel$Machine") (index := 40) (ci := 14) (k := 6) hq_77 ho_77 ⟨rfl, by decide, ei_14, (List.mem_of_getElem? (i := 1908) (by decide +kernel)), .inl rfl⟩ eo_14 en_14 e_oksA (.inl rfl) (by decide +kernel) rfl : e_Sn 77 203 (o_putf (e_f1 14 6) e_okR 206)) t_77_206 (e_cg_putf (e_f1 14 6) e_okR)
noncomputable def n_77_200 : e_Y := u_callS 64 3 22 1 n_64_0 n_77_203
theorem t_77_200 : e_Sn 77 200 (e_un n_77_200) := u_callST rfl (s_callSN (host := "PlateroomprinterModel") (index := 71) hq_77 ho_77 hy_64 hp_64 hc_64 hi_64 hd_64 (List.mem_of_getElem? (i := 2106) (by decide +kernel)) hs_64 (by decide +kernel) rfl : e_Sn 77 200 (o_callS 64 3 1 203)) t_64_0 t_77_203
noncomputable def n_77_197 : e_Y := u_getf 14 6 (u_old (o_getf (e_f1 14 6) 200) n_77_200) n_77_200
theorem t_77_197 : e_Sn 77 197 (e_un n_77_197) := u_getfT (s_getf (C := er_14) (T := et_14) (N := 13) (ref := "PlateroomprinterModel$Machine") (index := 40) (ci := 14) (k := 6) hq_77 ho_77 ⟨rfl, by decide, ei_14, (List.mem_of_getElem? (i := 1908) (by decide +kernel)), .inl rfl⟩ (by decide +kernel) rfl : e_Sn 77 197 (o_getf (e_f1 14 6) 200)) t_77_200
noncomputable def n_77_196 : e_Y := u_ld f_okA f_l0 n_77_197
theorem t_77_196 : e_Sn 77 196 (e_un n_77_196) := u_ldAT f_l0_eq (s_aload (i := .aload_n 0) (len := 1) hq_77 (by decide +kernel) rfl (.inr ⟨0, rfl, rfl, rfl⟩) : e_Sn 77 196 (o_load e_okR 0 197)) t_77_197
noncomputable def n_77_195 : e_Y := u_ld f_okA f_l1 n_77_196
theorem t_77_195 : e_Sn 77 195 (e_un n_77_195) := u_ldAT f_l1_eq (s_aload (i := .aload_n 1) (len := 1) hq_77 (by decide +kernel) rfl (.inr ⟨1, rfl, rfl, rfl⟩) : e_Sn 77 195 (o_load e_okR 1 196)) t_77_196
noncomputable def n_77_167 : e_Y := u_jmp y_ge (u_old2 (o_clt 170 195) 170 (u_at 170) n_77_195) (u_at 170) n_77_195
theorem t_77_167 : e_Sn 77 167 (e_un n_77_167) := u_cltT rfl (s_cge (off := (28)) hq_77 (by decide +kernel) rfl rfl : e_Sn 77 167 (o_clt 170 195)) u_atT t_77_195
noncomputable def n_77_164 : e_Y := u_callV 19 117 1 20 1 n_117_0 n_77_167
theorem t_77_164 : e_Sn 77 164 (e_un n_77_164) := u_callVT rfl (s_callV (ci := 19) (C := er_19) (T := et_19) (N := 3) (index := 53) hq_77 ho_77 hy_117 hp_117 hc_117 hi_117 hd_117 (List.mem_of_getElem? (i := 2048) (by decide +kernel)) hs_117 (List.mem_of_getElem? (i := 2002) (by decide +kernel)) rfl (by decide +kernel) rfl : e_Sn 77 164 (o_callV (e_s1 19 117 1) 1 167)) t_117_0 t_77_167
noncomputable def n_77_161 : e_Y := u_getf 14 5 (u_old (o_getf (e_f1 14 5) 164) n_77_164) n_77_164
theorem t_77_161 : e_Sn 77 161 (e_un n_77_161) := u_getfT (s_getf (C := er_14) (T := et_14) (N := 13) (ref := "PlateroomprinterModel$Machine") (index := 37) (ci := 14) (k := 5) hq_77 ho_77 ⟨rfl, by decide, ei_14, (List.mem_of_getElem? (i := 1905) (by decide +kernel)), .inl rfl⟩ (by decide +kernel) rfl : e_Sn 77 161 (o_getf (e_f1 14 5) 164)) t_77_164
noncomputable def n_77_160 : e_Y := u_ld f_okA f_l0 n_77_161
theorem t_77_160 : e_Sn 77 160 (e_un n_77_160) := u_ldAT f_l0_eq (s_aload (i := .aload_n 0) (len := 1) hq_77 (by decide +kernel) rfl (.inr ⟨0, rfl, rfl, rfl⟩) : e_Sn 77 160 (o_load e_okR 0 161)) t_77_161
noncomputable def n_77_159 : e_Y := u_ld f_okI f_l2 n_77_160
theorem t_77_159 : e_Sn 77 159 (e_un n_77_159) := u_ldIT f_l2_eq (s_iload (i := .iload_n 2) (len := 1) hq_77 (by decide +kernel) rfl (.inr ⟨2, rfl, rfl, rfl⟩) : e_Sn 77 159 (o_load e_okI 2 160)) t_77_160
noncomputable def n_77_158 : e_Y := u_st f_okI f_s2 n_77_159
theorem t_77_158 : e_Sn 77 158 (e_un n_77_158) := u_stIT (fun _ _ _ => f_s2_eq) (s_istore (i := .istore_n 2) (len := 1) hq_77 (by decide +kernel) rfl (.inr ⟨2, rfl, rfl, rfl⟩) : e_Sn 77 158 (o_store e_okI 2 159)) t_77_159
noncomputable def n_77_157 : e_Y := u_push (.inl 2147483648) n_77_158
theorem t_77_157 : e_Sn 77 157 (e_un n_77_157) := u_pushT (s_iconst (n := (0)) hq_77 (by decide +kernel) rfl ⟨by decide +kernel, by decide +kernel⟩ : e_Sn 77 157 (o_push (.inl 2147483648) 158)) t_77_158
noncomputable def n_77_154 : e_Y := (u_at 126)
theorem t_77_154 : e_Sn 77 154 (e_un n_77_154) := u_gotoT (s_goto (off := (-28)) hq_77 (by decide +kernel) rfl : e_Sn 77 154 (o_goto 126)) u_atT
noncomputable def n_77_151 : e_Y := u_inc f_l2 f_s2 1 n_77_154
theorem t_77_151 : e_Sn 77 151 (e_un n_77_151) := u_incT f_l2_eq (fun _ _ _ => f_s2_eq) (s_iinc (zz := (1)) hq_77 (by decide +kernel) rfl (by decide +kernel) ⟨by decide, by decide⟩ : e_Sn 77 151 (o_iinc 2 1 154)) t_77_154
noncomputable def n_77_150 : e_Y := u_pop n_77_151
theorem t_77_150 : e_Sn 77 150 (e_un n_77_150) := u_popT (s_pop hq_77 (by decide +kernel) rfl : e_Sn 77 150 (o_pop 151)) t_77_151
noncomputable def n_77_147 : e_Y := u_callV 19 116 4 23 3 n_116_0 n_77_150
theorem t_77_147 : e_Sn 77 147 (e_un n_77_147) := u_callVT rfl (s_callV (ci := 19) (C := er_19) (T := et_19) (N := 3) (index := 65) hq_77 ho_77 hy_116 hp_116 hc_116 hi_116 hd_116 (List.mem_of_getElem? (i := 2101) (by decide +kernel)) hs_116 (List.mem_of_getElem? (i := 2103) (by decide +kernel)) rfl (by decide +kernel) rfl : e_Sn 77 147 (o_callV (e_s1 19 116 4) 3 150)) t_116_0 t_77_150
noncomputable def n_77_144 : e_Y := u_old (o_cast 19 147) n_77_147
theorem t_77_144 : e_Sn 77 144 (e_un n_77_144) := u_oldT (s_cast (index := 9) hq_77 ho_77 (List.mem_of_getElem? (i := 1750) (by decide +kernel)) (.inl ⟨by decide, rfl⟩) (by decide +kernel) rfl : e_Sn 77 144 (o_cast 19 147)) t_77_147 (e_cg_cast 19)
noncomputable def n_77_141 : e_Y := u_callV 19 111 2 21 2 n_111_0 n_77_144
theorem t_77_141 : e_Sn 77 141 (e_un n_77_141) := u_callVT rfl (s_callV (ci := 19) (C := er_19) (T := et_19) (N := 3) (index := 57) hq_77 ho_77 hy_111 hp_111 hc_111 hi_111 hd_111 (List.mem_of_getElem? (i := 2049) (by decide +kernel)) hs_111 (List.mem_of_getElem? (i := 2051) (by decide +kernel)) rfl (by decide +kernel) rfl : e_Sn 77 141 (o_callV (e_s1 19 111 2) 2 144)) t_111_0 t_77_144
noncomputable def n_77_140 : e_Y := u_ld f_okI f_l2 n_77_141
theorem t_77_140 : e_Sn 77 140 (e_un n_77_140) := u_ldIT f_l2_eq (s_iload (i := .iload_n 2) (len := 1) hq_77 (by decide +kernel) rfl (.inr ⟨2, rfl, rfl, rfl⟩) : e_Sn 77 140 (o_load e_okI 2 141)) t_77_141
noncomputable def n_77_137 : e_Y := u_getf 14 4 (u_old (o_getf (e_f1 14 4) 140) n_77_140) n_77_140
theorem t_77_137 : e_Sn 77 137 (e_un n_77_137) := u_getfT (s_getf (C := er_14) (T := et_14) (N := 13) (ref := "PlateroomprinterModel$Machine") (index := 34) (ci := 14) (k := 4) hq_77 ho_77 ⟨rfl, by decide, ei_14, (List.mem_of_getElem? (i := 1902) (by decide +kernel)), .inl rfl⟩ (by decide +kernel) rfl : e_Sn 77 137 (o_getf (e_f1 14 4) 140)) t_77_140
noncomputable def n_77_136 : e_Y := u_ld f_okA f_l0 n_77_137
theorem t_77_136 : e_Sn 77 136 (e_un n_77_136) := u_ldAT f_l0_eq (s_aload (i := .aload_n 0) (len := 1) hq_77 (by decide +kernel) rfl (.inr ⟨0, rfl, rfl, rfl⟩) : e_Sn 77 136 (o_load e_okR 0 137)) t_77_137
noncomputable def n_77_135 : e_Y := u_ld f_okI f_l2 n_77_136
theorem t_77_135 : e_Sn 77 135 (e_un n_77_135) := u_ldIT f_l2_eq (s_iload (i := .iload_n 2) (len := 1) hq_77 (by decide +kernel) rfl (.inr ⟨2, rfl, rfl, rfl⟩) : e_Sn 77 135 (o_load e_okI 2 136)) t_77_136
noncomputable def n_77_132 : e_Y := u_getf 14 4 (u_old (o_getf (e_f1 14 4) 135) n_77_135) n_77_135
theorem t_77_132 : e_Sn 77 132 (e_un n_77_132) := u_getfT (s_getf (C := er_14) (T := et_14) (N := 13) (ref := "PlateroomprinterModel$Machine") (index := 34) (ci := 14) (k := 4) hq_77 ho_77 ⟨rfl, by decide, ei_14, (List.mem_of_getElem? (i := 1902) (by decide +kernel)), .inl rfl⟩ (by decide +kernel) rfl : e_Sn 77 132 (o_getf (e_f1 14 4) 135)) t_77_135
noncomputable def n_77_131 : e_Y := u_ld f_okA f_l1 n_77_132
theorem t_77_131 : e_Sn 77 131 (e_un n_77_131) := u_ldAT f_l1_eq (s_aload (i := .aload_n 1) (len := 1) hq_77 (by decide +kernel) rfl (.inr ⟨1, rfl, rfl, rfl⟩) : e_Sn 77 131 (o_load e_okR 1 132)) t_77_132
noncomputable def n_77_128 : e_Y := u_jmp y_ge (u_old2 (o_clt 131 157) 131 n_77_131 n_77_157) n_77_131 n_77_157
theorem t_77_128 : e_Sn 77 128 (e_un n_77_128) := u_cltT rfl (s_cge (off := (29)) hq_77 (by decide +kernel) rfl rfl : e_Sn 77 128 (o_clt 131 157)) t_77_131 t_77_157
noncomputable def n_77_127 : e_Y := u_push (.inl 2147483653) n_77_128
theorem t_77_127 : e_Sn 77 127 (e_un n_77_127) := u_pushT (s_iconst (n := (5)) hq_77 (by decide +kernel) rfl ⟨by decide +kernel, by decide +kernel⟩ : e_Sn 77 127 (o_push (.inl 2147483653) 128)) t_77_128
noncomputable def n_77_126 : e_Y := u_ld f_okI f_l2 n_77_127
theorem t_77_126 : e_Sn 77 126 (e_un n_77_126) := u_ldIT f_l2_eq (s_iload (i := .iload_n 2) (len := 1) hq_77 (by decide +kernel) rfl (.inr ⟨2, rfl, rfl, rfl⟩) : e_Sn 77 126 (o_load e_okI 2 127)) t_77_127
noncomputable def n_77_125 : e_Y := u_st f_okI f_s2 n_77_126
theorem t_77_125 : e_Sn 77 125 (e_un n_77_125) := u_stIT (fun _ _ _ => f_s2_eq) (s_istore (i := .istore_n 2) (len := 1) hq_77 (by decide +kernel) rfl (.inr ⟨2, rfl, rfl, rfl⟩) : e_Sn 77 125 (o_store e_okI 2 126)) t_77_126
noncomputable def n_77_124 : e_Y := u_push (.inl 2147483648) n_77_125
theorem t_77_124 : e_Sn 77 124 (e_un n_77_124) := u_pushT (s_iconst (n := (0)) hq_77 (by decide +kernel) rfl ⟨by decide +kernel, by decide +kernel⟩ : e_Sn 77 124 (o_push (.inl 2147483648) 125)) t_77_125
noncomputable def n_77_93 : e_Y := u_jmp y_ge (u_old2 (o_clt 96 124) 96 (u_at 96) n_77_124) (u_at 96) n_77_124
theorem t_77_93 : e_Sn 77 93 (e_un n_77_93) := u_cltT rfl (s_cge (off := (31)) hq_77 (by decide +kernel) rfl rfl : e_Sn 77 93 (o_clt 96 124)) u_atT t_77_124
noncomputable def n_77_90 : e_Y := u_callV 19 117 1 20 1 n_117_0 n_77_93
theorem t_77_90 : e_Sn 77 90 (e_un n_77_90) := u_callVT rfl (s_callV (ci := 19) (C := er_19) (T := et_19) (N := 3) (index := 53) hq_77 ho_77 hy_117 hp_117 hc_117 hi_117 hd_117 (List.mem_of_getElem? (i := 2048) (by decide +kernel)) hs_117 (List.mem_of_getElem? (i := 2002) (by decide +kernel)) rfl (by decide +kernel) rfl : e_Sn 77 90 (o_callV (e_s1 19 117 1) 1 93)) t_117_0 t_77_93
noncomputable def n_77_87 : e_Y := u_getf 14 3 (u_old (o_getf (e_f1 14 3) 90) n_77_90) n_77_90
theorem t_77_87 : e_Sn 77 87 (e_un n_77_87) := u_getfT (s_getf (C := er_14) (T := et_14) (N := 13) (ref := "PlateroomprinterModel$Machine") (index := 31) (ci := 14) (k := 3) hq_77 ho_77 ⟨rfl, by decide, ei_14, (List.mem_of_getElem? (i := 1899) (by decide +kernel)), .inl rfl⟩ (by decide +kernel) rfl : e_Sn 77 87 (o_getf (e_f1 14 3) 90)) t_77_90
noncomputable def n_77_86 : e_Y := u_ld f_okA f_l0 n_77_87
theorem t_77_86 : e_Sn 77 86 (e_un n_77_86) := u_ldAT f_l0_eq (s_aload (i := .aload_n 0) (len := 1) hq_77 (by decide +kernel) rfl (.inr ⟨0, rfl, rfl, rfl⟩) : e_Sn 77 86 (o_load e_okR 0 87)) t_77_87
noncomputable def n_77_85 : e_Y := u_ld f_okI f_l2 n_77_86
theorem t_77_85 : e_Sn 77 85 (e_un n_77_85) := u_ldIT f_l2_eq (s_iload (i := .iload_n 2) (len := 1) hq_77 (by decide +kernel) rfl (.inr ⟨2, rfl, rfl, rfl⟩) : e_Sn 77 85 (o_load e_okI 2 86)) t_77_86
noncomputable def n_77_84 : e_Y := u_st f_okI f_s2 n_77_85
theorem t_77_84 : e_Sn 77 84 (e_un n_77_84) := u_stIT (fun _ _ _ => f_s2_eq) (s_istore (i := .istore_n 2) (len := 1) hq_77 (by decide +kernel) rfl (.inr ⟨2, rfl, rfl, rfl⟩) : e_Sn 77 84 (o_store e_okI 2 85)) t_77_85
noncomputable def n_77_83 : e_Y := u_push (.inl 2147483648) n_77_84
theorem t_77_83 : e_Sn 77 83 (e_un n_77_83) := u_pushT (s_iconst (n := (0)) hq_77 (by decide +kernel) rfl ⟨by decide +kernel, by decide +kernel⟩ : e_Sn 77 83 (o_push (.inl 2147483648) 84)) t_77_84
noncomputable def n_77_80 : e_Y := u_old (o_putf (e_f1 14 2) e_okR 83) n_77_83
theorem t_77_80 : e_Sn 77 80 (e_un n_77_80) := u_oldT (s_putf (ty0 := ey_14) (ok := e_okR) (C := er_14) (T := et_14) (N := 13) (ref := "PlateroomprinterModel$Machine") (index := 27) (ci := 14) (k := 2) hq_77 ho_77 ⟨rfl, by decide, ei_14, (List.mem_of_getElem? (i := 1896) (by decide +kernel)), .inl rfl⟩ eo_14 en_14 e_oksR (.inl rfl) (by decide +kernel) rfl : e_Sn 77 80 (o_putf (e_f1 14 2) e_okR 83)) t_77_83 (e_cg_putf (e_f1 14 2) e_okR)
noncomputable def n_77_77 : e_Y := u_callV 17 101 3 22 1 n_101_0 n_77_80
theorem t_77_77 : e_Sn 77 77 (e_un n_77_77) := u_callVT rfl (s_callV (ci := 17) (C := er_17) (T := et_17) (N := 6) (index := 61) hq_77 ho_77 hy_101 hp_101 hc_101 hi_101 hd_101 (List.mem_of_getElem? (i := 2057) (by decide +kernel)) hs_101 (List.mem_of_getElem? (i := 2059) (by decide +kernel)) rfl (by decide +kernel) rfl : e_Sn 77 77 (o_callV (e_s1 17 101 3) 1 80)) t_101_0 t_77_80
noncomputable def n_77_74 : e_Y := u_getf 14 2 (u_old (o_getf (e_f1 14 2) 77) n_77_77) n_77_77
theorem t_77_74 : e_Sn 77 74 (e_un n_77_74) := u_getfT (s_getf (C := er_14) (T := et_14) (N := 13) (ref := "PlateroomprinterModel$Machine") (index := 27) (ci := 14) (k := 2) hq_77 ho_77 ⟨rfl, by decide, ei_14, (List.mem_of_getElem? (i := 1896) (by decide +kernel)), .inl rfl⟩ (by decide +kernel) rfl : e_Sn 77 74 (o_getf (e_f1 14 2) 77)) t_77_77
noncomputable def n_77_73 : e_Y := u_ld f_okA f_l0 n_77_74
theorem t_77_73 : e_Sn 77 73 (e_un n_77_73) := u_ldAT f_l0_eq (s_aload (i := .aload_n 0) (len := 1) hq_77 (by decide +kernel) rfl (.inr ⟨0, rfl, rfl, rfl⟩) : e_Sn 77 73 (o_load e_okR 0 74)) t_77_74
noncomputable def n_77_72 : e_Y := u_ld f_okA f_l1 n_77_73
theorem t_77_72 : e_Sn 77 72 (e_un n_77_72) := u_ldAT f_l1_eq (s_aload (i := .aload_n 1) (len := 1) hq_77 (by decide +kernel) rfl (.inr ⟨1, rfl, rfl, rfl⟩) : e_Sn 77 72 (o_load e_okR 1 73)) t_77_73
noncomputable def n_77_69 : e_Y := (u_at 48)
theorem t_77_69 : e_Sn 77 69 (e_un n_77_69) := u_gotoT (s_goto (off := (-21)) hq_77 (by decide +kernel) rfl : e_Sn 77 69 (o_goto 48)) u_atT
noncomputable def n_77_66 : e_Y := u_inc f_l2 f_s2 1 n_77_69
theorem t_77_66 : e_Sn 77 66 (e_un n_77_66) := u_incT f_l2_eq (fun _ _ _ => f_s2_eq) (s_iinc (zz := (1)) hq_77 (by decide +kernel) rfl (by decide +kernel) ⟨by decide, by decide⟩ : e_Sn 77 66 (o_iinc 2 1 69)) t_77_69
noncomputable def n_77_65 : e_Y := u_old (o_astR 6 (fun _ => false) 66) n_77_66
theorem t_77_65 : e_Sn 77 65 (e_un n_77_65) := u_oldT (s_aast (tc := 3) (E := "PlateroomprinterModel$Item") hq_77 rfl (by decide) (fun k hk => by cases hk) (by decide +kernel) rfl : e_Sn 77 65 (o_astR 6 (fun _ => false) 66)) t_77_66 (e_cg_astR 6 (fun _ => false))
noncomputable def n_77_64 : e_Y := u_ald 6 (u_old (o_aldO 6 65) n_77_65) n_77_65
theorem t_77_64 : e_Sn 77 64 (e_un n_77_64) := u_aldOT (s_aald (tc := 3) rfl hq_77 (by decide +kernel) rfl : e_Sn 77 64 (o_aldO 6 65)) t_77_65
noncomputable def n_77_63 : e_Y := u_ld f_okI f_l2 n_77_64
theorem t_77_63 : e_Sn 77 63 (e_un n_77_63) := u_ldIT f_l2_eq (s_iload (i := .iload_n 2) (len := 1) hq_77 (by decide +kernel) rfl (.inr ⟨2, rfl, rfl, rfl⟩) : e_Sn 77 63 (o_load e_okI 2 64)) t_77_64
noncomputable def n_77_60 : e_Y := u_getf 14 1 (u_old (o_getf (e_f1 14 1) 63) n_77_63) n_77_63
theorem t_77_60 : e_Sn 77 60 (e_un n_77_60) := u_getfT (s_getf (C := er_14) (T := et_14) (N := 13) (ref := "PlateroomprinterModel$Machine") (index := 20) (ci := 14) (k := 1) hq_77 ho_77 ⟨rfl, by decide, ei_14, (List.mem_of_getElem? (i := 1893) (by decide +kernel)), .inl rfl⟩ (by decide +kernel) rfl : e_Sn 77 60 (o_getf (e_f1 14 1) 63)) t_77_63
noncomputable def n_77_59 : e_Y := u_ld f_okA f_l0 n_77_60
theorem t_77_59 : e_Sn 77 59 (e_un n_77_59) := u_ldAT f_l0_eq (s_aload (i := .aload_n 0) (len := 1) hq_77 (by decide +kernel) rfl (.inr ⟨0, rfl, rfl, rfl⟩) : e_Sn 77 59 (o_load e_okR 0 60)) t_77_60
noncomputable def n_77_58 : e_Y := u_ld f_okI f_l2 n_77_59
theorem t_77_58 : e_Sn 77 58 (e_un n_77_58) := u_ldIT f_l2_eq (s_iload (i := .iload_n 2) (len := 1) hq_77 (by decide +kernel) rfl (.inr ⟨2, rfl, rfl, rfl⟩) : e_Sn 77 58 (o_load e_okI 2 59)) t_77_59
noncomputable def n_77_55 : e_Y := u_getf 14 1 (u_old (o_getf (e_f1 14 1) 58) n_77_58) n_77_58
theorem t_77_55 : e_Sn 77 55 (e_un n_77_55) := u_getfT (s_getf (C := er_14) (T := et_14) (N := 13) (ref := "PlateroomprinterModel$Machine") (index := 20) (ci := 14) (k := 1) hq_77 ho_77 ⟨rfl, by decide, ei_14, (List.mem_of_getElem? (i := 1893) (by decide +kernel)), .inl rfl⟩ (by decide +kernel) rfl : e_Sn 77 55 (o_getf (e_f1 14 1) 58)) t_77_58
noncomputable def n_77_54 : e_Y := u_ld f_okA f_l1 n_77_55
theorem t_77_54 : e_Sn 77 54 (e_un n_77_54) := u_ldAT f_l1_eq (s_aload (i := .aload_n 1) (len := 1) hq_77 (by decide +kernel) rfl (.inr ⟨1, rfl, rfl, rfl⟩) : e_Sn 77 54 (o_load e_okR 1 55)) t_77_55
noncomputable def n_77_51 : e_Y := u_jmp y_ge (u_old2 (o_clt 54 72) 54 n_77_54 n_77_72) n_77_54 n_77_72
theorem t_77_51 : e_Sn 77 51 (e_un n_77_51) := u_cltT rfl (s_cge (off := (21)) hq_77 (by decide +kernel) rfl rfl : e_Sn 77 51 (o_clt 54 72)) t_77_54 t_77_72
noncomputable def n_77_49 : e_Y := u_push (.inl 2147483658) n_77_51
theorem t_77_49 : e_Sn 77 49 (e_un n_77_49) := u_pushT (s_bipush (n := (10)) hq_77 (by decide +kernel) rfl ⟨by decide +kernel, by decide +kernel⟩ : e_Sn 77 49 (o_push (.inl 2147483658) 51)) t_77_51
noncomputable def n_77_48 : e_Y := u_ld f_okI f_l2 n_77_49
theorem t_77_48 : e_Sn 77 48 (e_un n_77_48) := u_ldIT f_l2_eq (s_iload (i := .iload_n 2) (len := 1) hq_77 (by decide +kernel) rfl (.inr ⟨2, rfl, rfl, rfl⟩) : e_Sn 77 48 (o_load e_okI 2 49)) t_77_49
noncomputable def n_77_47 : e_Y := u_st f_okI f_s2 n_77_48
theorem t_77_47 : e_Sn 77 47 (e_un n_77_47) := u_stIT (fun _ _ _ => f_s2_eq) (s_istore (i := .istore_n 2) (len := 1) hq_77 (by decide +kernel) rfl (.inr ⟨2, rfl, rfl, rfl⟩) : e_Sn 77 47 (o_store e_okI 2 48)) t_77_48
noncomputable def n_77_46 : e_Y := u_push (.inl 2147483648) n_77_47
theorem t_77_46 : e_Sn 77 46 (e_un n_77_46) := u_pushT (s_iconst (n := (0)) hq_77 (by decide +kernel) rfl ⟨by decide +kernel, by decide +kernel⟩ : e_Sn 77 46 (o_push (.inl 2147483648) 47)) t_77_47
noncomputable def n_77_18 : e_Y := u_jmp y_ge (u_old2 (o_clt 21 46) 21 (u_at 21) n_77_46) (u_at 21) n_77_46
theorem t_77_18 : e_Sn 77 18 (e_un n_77_18) := u_cltT rfl (s_cge (off := (28)) hq_77 (by decide +kernel) rfl rfl : e_Sn 77 18 (o_clt 21 46)) u_atT t_77_46
noncomputable def n_77_15 : e_Y := u_callV 19 117 1 20 1 n_117_0 n_77_18
theorem t_77_15 : e_Sn 77 15 (e_un n_77_15) := u_callVT rfl (s_callV (ci := 19) (C := er_19) (T := et_19) (N := 3) (index := 53) hq_77 ho_77 hy_117 hp_117 hc_117 hi_117 hd_117 (List.mem_of_getElem? (i := 2048) (by decide +kernel)) hs_117 (List.mem_of_getElem? (i := 2002) (by decide +kernel)) rfl (by decide +kernel) rfl : e_Sn 77 15 (o_callV (e_s1 19 117 1) 1 18)) t_117_0 t_77_18
noncomputable def n_77_12 : e_Y := u_getf 14 0 (u_old (o_getf (e_f1 14 0) 15) n_77_15) n_77_15
theorem t_77_12 : e_Sn 77 12 (e_un n_77_12) := u_getfT (s_getf (C := er_14) (T := et_14) (N := 13) (ref := "PlateroomprinterModel$Machine") (index := 12) (ci := 14) (k := 0) hq_77 ho_77 ⟨rfl, by decide, ei_14, (List.mem_of_getElem? (i := 1890) (by decide +kernel)), .inl rfl⟩ (by decide +kernel) rfl : e_Sn 77 12 (o_getf (e_f1 14 0) 15)) t_77_15
noncomputable def n_77_11 : e_Y := u_ld f_okA f_l0 n_77_12
theorem t_77_11 : e_Sn 77 11 (e_un n_77_11) := u_ldAT f_l0_eq (s_aload (i := .aload_n 0) (len := 1) hq_77 (by decide +kernel) rfl (.inr ⟨0, rfl, rfl, rfl⟩) : e_Sn 77 11 (o_load e_okR 0 12)) t_77_12
noncomputable def n_77_10 : e_Y := u_ld f_okI f_l2 n_77_11
theorem t_77_10 : e_Sn 77 10 (e_un n_77_10) := u_ldIT f_l2_eq (s_iload (i := .iload_n 2) (len := 1) hq_77 (by decide +kernel) rfl (.inr ⟨2, rfl, rfl, rfl⟩) : e_Sn 77 10 (o_load e_okI 2 11)) t_77_11
noncomputable def n_77_9 : e_Y := u_st f_okI f_s2 n_77_10
theorem t_77_9 : e_Sn 77 9 (e_un n_77_9) := u_stIT (fun _ _ _ => f_s2_eq) (s_istore (i := .istore_n 2) (len := 1) hq_77 (by decide +kernel) rfl (.inr ⟨2, rfl, rfl, rfl⟩) : e_Sn 77 9 (o_store e_okI 2 10)) t_77_10
noncomputable def n_77_8 : e_Y := u_push (.inl 2147483648) n_77_9
theorem t_77_8 : e_Sn 77 8 (e_un n_77_8) := u_pushT (s_iconst (n := (0)) hq_77 (by decide +kernel) rfl ⟨by decide +kernel, by decide +kernel⟩ : e_Sn 77 8 (o_push (.inl 2147483648) 9)) t_77_9
noncomputable def n_77_7 : e_Y := u_st f_okA f_s1 n_77_8
theorem t_77_7 : e_Sn 77 7 (e_un n_77_7) := u_stAT (fun _ _ _ => f_s1_eq) (s_astore (i := .astore_n 1) (len := 1) hq_77 (by decide +kernel) rfl (.inr ⟨1, rfl, rfl, rfl⟩) : e_Sn 77 7 (o_store e_okR 1 8)) t_77_8
noncomputable def n_77_4 : e_Y := u_tab (o_callI 76 2 1 7)
theorem t_77_4 : e_Sn 77 4 (e_un n_77_4) := u_tabT (s_callI (index := 52) hq_77 ho_77 hy_76 hp_76 hc_76 hi_76 hd_76 (List.mem_of_getElem? (i := 2047) (by decide +kernel)) rfl rfl hs_76 (by decide +kernel) rfl : e_Sn 77 4 (o_callI 76 2 1 7))
noncomputable def n_77_3 : e_Y := u_old (o_dup 4) n_77_4
theorem t_77_3 : e_Sn 77 3 (e_un n_77_3) := u_oldT (s_dup hq_77 (by decide +kernel) rfl : e_Sn 77 3 (o_dup 4)) t_77_4 e_cg_dup
noncomputable def n_77_0 : e_Y := u_tab (o_new 14 13 ef_14 3)
theorem t_77_0 : e_Sn 77 0 (e_un n_77_0) := u_tabT (s_new (index := 13) (ci := 14) (N := 13) (C := er_14) (T := et_14) (ty0 := ey_14) (fv := eg_14) hq_77 ho_77 rfl ei_14 eo_14 (List.mem_of_getElem? (i := 2046) (by decide +kernel)) (List.mem_of_getElem? (i := 1745) (by decide +kernel)) (List.mem_of_getElem? (i := 152) (by decide +kernel)) eh_14 rfl (e_newrel ek_14) (by decide +kernel) rfl : e_Sn 77 0 (o_new 14 13 ef_14 3))
noncomputable def e_tb_77 : e_X := (e_br 7 (e_br 3 (e_lf 0 (e_un n_77_0)) (e_lf 3 (e_un n_77_3))) (e_br 48 (e_lf 7 (e_un n_77_7)) (e_br 126 (e_lf 48 (e_un n_77_48)) (e_lf 126 (e_un n_77_126)))))
theorem e_tk_77 : e_Tb 77 e_tb_77 := (e_brT (e_brT (e_lfT t_77_0) (e_lfT t_77_3)) (e_brT (e_lfT t_77_7) (e_brT (e_lfT t_77_48) (e_lfT t_77_126))))
theorem hq_78 : (e_ml[78]?).map (·.2.1) = some prog_19_method_1_code := rfl
theorem ho_78 : (e_ml[78]?).map (·.1.cls) = some "PlateroomprinterModel$Row" := rfl
theorem hr_78 : (e_ml[78]?).map (·.2.2.2) = some none := rfl
noncomputable def n_78_9 : e_Y := u_tab (o_retv)
theorem t_78_9 : e_Sn 78 9 (e_un n_78_9) := u_tabT (s_vret hq_78 hr_78 (by decide +kernel) : e_Sn 78 9 (o_retv))
noncomputable def n_78_6 : e_Y := u_old (o_putf (e_f1 15 0) e_okR 9) n_78_9
theorem t_78_6 : e_Sn 78 6 (e_un n_78_6) := u_oldT (s_putf (ty0 := ey_15) (ok := e_okR) (C := er_15) (T := et_15) (N := 8) (ref := "PlateroomprinterModel$Row") (index := 7) (ci := 15) (k := 0) hq_78 ho_78 ⟨rfl, by decide, ei_15, (List.mem_of_getElem? (i := 2122) (by decide +kernel)), .inl rfl⟩ eo_15 en_15 e_oksR (.inr ⟨rfl, rfl, rfl⟩) (by decide +kernel) rfl : e_Sn 78 6 (o_putf (e_f1 15 0) e_okR 9)) t_78_9 (e_cg_putf (e_f1 15 0) e_okR)
noncomputable def n_78_5 : e_Y := u_ld f_okA f_l1 n_78_6
theorem t_78_5 : e_Sn 78 5 (e_un n_78_5) := u_ldAT f_l1_eq (s_aload (i := .aload_n 1) (len := 1) hq_78 (by decide +kernel) rfl (.inr ⟨1, rfl, rfl, rfl⟩) : e_Sn 78 5 (o_load e_okR 1 6)) t_78_6
noncomputable def n_78_4 : e_Y := u_ld f_okA f_l0 n_78_5
theorem t_78_4 : e_Sn 78 4 (e_un n_78_4) := u_ldAT f_l0_eq (s_aload (i := .aload_n 0) (len := 1) hq_78 (by decide +kernel) rfl (.inr ⟨0, rfl, rfl, rfl⟩) : e_Sn 78 4 (o_load e_okR 0 5)) t_78_5
noncomputable def n_78_1 : e_Y := u_tab (o_oinit 4)
theorem t_78_1 : e_Sn 78 1 (e_un n_78_1) := u_tabT (s_oinit (idx := 1) hq_78 ho_78 (List.mem_of_getElem? (i := 2121) (by decide +kernel)) (List.mem_of_getElem? (i := 190) (by decide +kernel)) (List.mem_of_getElem? (i := 191) (by decide +kernel)) (by decide +kernel) rfl : e_Sn 78 1 (o_oinit 4))
noncomputable def n_78_0 : e_Y := u_ld f_okA f_l0 n_78_1
theorem t_78_0 : e_Sn 78 0 (e_un n_78_0) := u_ldAT f_l0_eq (s_aload (i := .aload_n 0) (len := 1) hq_78 (by decide +kernel) rfl (.inr ⟨0, rfl, rfl, rfl⟩) : e_Sn 78 0 (o_load e_okR 0 1)) t_78_1
noncomputable def e_tb_78 : e_X := (e_br 4 (e_lf 0 (e_un n_78_0)) (e_lf 4 (e_un n_78_4)))
theorem e_tk_78 : e_Tb 78 e_tb_78 := (e_brT (e_lfT t_78_0) (e_lfT t_78_4))
theorem hq_80 : (e_ml[80]?).map (·.2.1) = some prog_20_method_1_code := rfl
theorem ho_80 : (e_ml[80]?).map (·.1.cls) = some "PlateroomprinterModel$Run" := rfl
theorem hr_80 : (e_ml[80]?).map (·.2.2.2) = some none := rfl
noncomputable def n_80_46 : e_Y := u_tab (o_retv)
theorem t_80_46 : e_Sn 80 46 (e_un n_80_46) := u_tabT (s_vret hq_80 hr_80 (by decide +kernel) : e_Sn 80 46 (o_retv))
noncomputable def n_80_45 : e_Y := u_pop n_80_46
theorem t_80_45 : e_Sn 80 45 (e_un n_80_45) := u_popT (s_pop hq_80 (by decide +kernel) rfl : e_Sn 80 45 (o_pop 46)) t_80_46
noncomputable def n_80_42 : e_Y := u_callV 19 107 2 21 2 n_107_0 n_80_45
theorem t_80_42 : e_Sn 80 42 (e_un n_80_42) := u_callVT rfl (s_callV (ci := 19) (C := er_19) (T := et_19) (N := 3) (index := 34) hq_80 ho_80 hy_107 hp_107 hc_107 hi_107 hd_107 (List.mem_of_getElem? (i := 2149) (by decide +kernel)) hs_107 (List.mem_of_getElem? (i := 1822) (by decide +kernel)) rfl (by decide +kernel) rfl : e_Sn 80 42 (o_callV (e_s1 19 107 2) 2 45)) t_107_0 t_80_45
noncomputable def n_80_39 : e_Y := u_tab (o_callI 78 2 2 42)
theorem t_80_39 : e_Sn 80 39 (e_un n_80_39) := u_tabT (s_callI (index := 31) hq_80 ho_80 hy_78 hp_78 hc_78 hi_78 hd_78 (List.mem_of_getElem? (i := 2118) (by decide +kernel)) rfl rfl hs_78 (by decide +kernel) rfl : e_Sn 80 39 (o_callI 78 2 2 42))
noncomputable def n_80_38 : e_Y := u_ld f_okA f_l2 n_80_39
theorem t_80_38 : e_Sn 80 38 (e_un n_80_38) := u_ldAT f_l2_eq (s_aload (i := .aload_n 2) (len := 1) hq_80 (by decide +kernel) rfl (.inr ⟨2, rfl, rfl, rfl⟩) : e_Sn 80 38 (o_load e_okR 2 39)) t_80_39
noncomputable def n_80_37 : e_Y := u_old (o_dup 38) n_80_38
theorem t_80_37 : e_Sn 80 37 (e_un n_80_37) := u_oldT (s_dup hq_80 (by decide +kernel) rfl : e_Sn 80 37 (o_dup 38)) t_80_38 e_cg_dup
noncomputable def n_80_34 : e_Y := u_tab (o_new 15 8 ef_15 37)
theorem t_80_34 : e_Sn 80 34 (e_un n_80_34) := u_tabT (s_new (index := 29) (ci := 15) (N := 8) (C := er_15) (T := et_15) (ty0 := ey_15) (fv := eg_15) hq_80 ho_80 rfl ei_15 eo_15 (List.mem_of_getElem? (i := 2116) (by decide +kernel)) (List.mem_of_getElem? (i := 2117) (by decide +kernel)) (List.mem_of_getElem? (i := 171) (by decide +kernel)) eh_15 rfl (e_newrel ek_15) (by decide +kernel) rfl : e_Sn 80 34 (o_new 15 8 ef_15 37))
noncomputable def n_80_31 : e_Y := u_getf 16 1 (u_old (o_getf (e_f1 16 1) 34) n_80_34) n_80_34
theorem t_80_31 : e_Sn 80 31 (e_un n_80_31) := u_getfT (s_getf (C := er_16) (T := et_16) (N := 5) (ref := "PlateroomprinterModel$Run") (index := 12) (ci := 16) (k := 1) hq_80 ho_80 ⟨rfl, by decide, ei_16, (List.mem_of_getElem? (i := 2151) (by decide +kernel)), .inl rfl⟩ (by decide +kernel) rfl : e_Sn 80 31 (o_getf (e_f1 16 1) 34)) t_80_34
noncomputable def n_80_30 : e_Y := u_ld f_okA f_l0 n_80_31
theorem t_80_30 : e_Sn 80 30 (e_un n_80_30) := u_ldAT f_l0_eq (s_aload (i := .aload_n 0) (len := 1) hq_80 (by decide +kernel) rfl (.inr ⟨0, rfl, rfl, rfl⟩) : e_Sn 80 30 (o_load e_okR 0 31)) t_80_31
noncomputable def n_80_27 : e_Y := u_old (o_putf (e_f1 16 0) e_okR 30) n_80_30
theorem t_80_27 : e_Sn 80 27 (e_un n_80_27) := u_oldT (s_putf (ty0 := ey_16) (ok := e_okR) (C := er_16) (T := et_16) (N := 5) (ref := "PlateroomprinterModel$Run") (index := 25) (ci := 16) (k := 0) hq_80 ho_80 ⟨rfl, by decide, ei_16, (List.mem_of_getElem? (i := 2150) (by decide +kernel)), .inl rfl⟩ eo_16 en_16 e_oksR (.inr ⟨rfl, rfl, rfl⟩) (by decide +kernel) rfl : e_Sn 80 27 (o_putf (e_f1 16 0) e_okR 30)) t_80_30 (e_cg_putf (e_f1 16 0) e_okR)
noncomputable def n_80_26 : e_Y := u_ld f_okA f_l1 n_80_27
theorem t_80_26 : e_Sn 80 26 (e_un n_80_26) := u_ldAT f_l1_eq (s_aload (i := .aload_n 1) (len := 1) hq_80 (by decide +kernel) rfl (.inr ⟨1, rfl, rfl, rfl⟩) : e_Sn 80 26 (o_load e_okR 1 27)) t_80_27
noncomputable def n_80_25 : e_Y := u_ld f_okA f_l0 n_80_26
theorem t_80_25 : e_Sn 80 25 (e_un n_80_25) := u_ldAT f_l0_eq (s_aload (i := .aload_n 0) (len := 1) hq_80 (by decide +kernel) rfl (.inr ⟨0, rfl, rfl, rfl⟩) : e_Sn 80 25 (o_load e_okR 0 26)) t_80_26
noncomputable def n_80_22 : e_Y := u_old (o_putf (e_f1 16 4) e_okI 25) n_80_25
theorem t_80_22 : e_Sn 80 22 (e_un n_80_22) := u_oldT (s_putf (ty0 := ey_16) (ok := e_okI) (C := er_16) (T := et_16) (N := 5) (ref := "PlateroomprinterModel$Run") (index := 22) (ci := 16) (k := 4) hq_80 ho_80 ⟨rfl, by decide, ei_16, (List.mem_of_getElem? (i := 2155) (by decide +kernel)), .inl rfl⟩ eo_16 en_16 e_oksI (.inl rfl) (by decide +kernel) rfl : e_Sn 80 22 (o_putf (e_f1 16 4) e_okI 25)) t_80_25 (e_cg_putf (e_f1 16 4) e_okI)
noncomputable def n_80_21 : e_Y := u_push (.inl 2147483647) n_80_22
theorem t_80_21 : e_Sn 80 21 (e_un n_80_21) := u_pushT (s_iconst (n := (-1)) hq_80 (by decide +kernel) rfl ⟨by decide +kernel, by decide +kernel⟩ : e_Sn 80 21 (o_push (.inl 2147483647) 22)) t_80_22
noncomputable def n_80_20 : e_Y := u_ld f_okA f_l0 n_80_21
theorem t_80_20 : e_Sn 80 20 (e_un n_80_20) := u_ldAT f_l0_eq (s_aload (i := .aload_n 0) (len := 1) hq_80 (by decide +kernel) rfl (.inr ⟨0, rfl, rfl, rfl⟩) : e_Sn 80 20 (o_load e_okR 0 21)) t_80_21
noncomputable def n_80_17 : e_Y := u_old (o_putf (e_f1 16 3) e_okI 20) n_80_20
theorem t_80_17 : e_Sn 80 17 (e_un n_80_17) := u_oldT (s_putf (ty0 := ey_16) (ok := e_okI) (C := er_16) (T := et_16) (N := 5) (ref := "PlateroomprinterModel$Run") (index := 18) (ci := 16) (k := 3) hq_80 ho_80 ⟨rfl, by decide, ei_16, (List.mem_of_getElem? (i := 2153) (by decide +kernel)), .inl rfl⟩ eo_16 en_16 e_oksI (.inl rfl) (by decide +kernel) rfl : e_Sn 80 17 (o_putf (e_f1 16 3) e_okI 20)) t_80_20 (e_cg_putf (e_f1 16 3) e_okI)
noncomputable def n_80_16 : e_Y := u_push (.inl 2147483647) n_80_17
theorem t_80_16 : e_Sn 80 16 (e_un n_80_16) := u_pushT (s_iconst (n := (-1)) hq_80 (by decide +kernel) rfl ⟨by decide +kernel, by decide +kernel⟩ : e_Sn 80 16 (o_push (.inl 2147483647) 17)) t_80_17
noncomputable def n_80_15 : e_Y := u_ld f_okA f_l0 n_80_16
theorem t_80_15 : e_Sn 80 15 (e_un n_80_15) := u_ldAT f_l0_eq (s_aload (i := .aload_n 0) (len := 1) hq_80 (by decide +kernel) rfl (.inr ⟨0, rfl, rfl, rfl⟩) : e_Sn 80 15 (o_load e_okR 0 16)) t_80_16
noncomputable def n_80_12 : e_Y := u_old (o_putf (e_f1 16 1) e_okR 15) n_80_15
theorem t_80_12 : e_Sn 80 12 (e_un n_80_12) := u_oldT (s_putf (ty0 := ey_16) (ok := e_okR) (C := er_16) (T := et_16) (N := 5) (ref := "PlateroomprinterModel$Run") (index := 12) (ci := 16) (k := 1) hq_80 ho_80 ⟨rfl, by decide, ei_16, (List.mem_of_getElem? (i := 2151) (by decide +kernel)), .inl rfl⟩ eo_16 en_16 e_oksR (.inr ⟨rfl, rfl, rfl⟩) (by decide +kernel) rfl : e_Sn 80 12 (o_putf (e_f1 16 1) e_okR 15)) t_80_15 (e_cg_putf (e_f1 16 1) e_okR)
noncomputable def n_80_9 : e_Y := u_tab (o_callI 106 1 1 12)
theorem t_80_9 : e_Sn 80 9 (e_un n_80_9) := u_tabT (s_callI (index := 11) hq_80 ho_80 hy_106 hp_106 hc_106 hi_106 hd_106 (List.mem_of_getElem? (i := 2115) (by decide +kernel)) rfl rfl hs_106 (by decide +kernel) rfl : e_Sn 80 9 (o_callI 106 1 1 12))
noncomputable def n_80_8 : e_Y := u_old (o_dup 9) n_80_9
theorem t_80_8 : e_Sn 80 8 (e_un n_80_8) := u_oldT (s_dup hq_80 (by decide +kernel) rfl : e_Sn 80 8 (o_dup 9)) t_80_9 e_cg_dup
noncomputable def n_80_5 : e_Y := u_tab (o_new 19 3 ef_19 8)
theorem t_80_5 : e_Sn 80 5 (e_un n_80_5) := u_tabT (s_new (index := 9) (ci := 19) (N := 3) (C := er_19) (T := et_19) (ty0 := ey_19) (fv := eg_19) hq_80 ho_80 rfl ei_19 eo_19 (List.mem_of_getElem? (i := 2114) (by decide +kernel)) (List.mem_of_getElem? (i := 1751) (by decide +kernel)) (List.mem_of_getElem? (i := 155) (by decide +kernel)) eh_19 rfl (e_newrel ek_19) (by decide +kernel) rfl : e_Sn 80 5 (o_new 19 3 ef_19 8))
noncomputable def n_80_4 : e_Y := u_ld f_okA f_l0 n_80_5
theorem t_80_4 : e_Sn 80 4 (e_un n_80_4) := u_ldAT f_l0_eq (s_aload (i := .aload_n 0) (len := 1) hq_80 (by decide +kernel) rfl (.inr ⟨0, rfl, rfl, rfl⟩) : e_Sn 80 4 (o_load e_okR 0 5)) t_80_5
noncomputable def n_80_1 : e_Y := u_tab (o_oinit 4)
theorem t_80_1 : e_Sn 80 1 (e_un n_80_1) := u_tabT (s_oinit (idx := 3) hq_80 ho_80 (List.mem_of_getElem? (i := 2113) (by decide +kernel)) (List.mem_of_getElem? (i := 190) (by decide +kernel)) (List.mem_of_getElem? (i := 191) (by decide +kernel)) (by decide +kernel) rfl : e_Sn 80 1 (o_oinit 4))
noncomputable def n_80_0 : e_Y := u_ld f_okA f_l0 n_80_1
theorem t_80_0 : e_Sn 80 0 (e_un n_80_0) := u_ldAT f_l0_eq (s_aload (i := .aload_n 0) (len := 1) hq_80 (by decide +kernel) rfl (.inr ⟨0, rfl, rfl, rfl⟩) : e_Sn 80 0 (o_load e_okR 0 1)) t_80_1
noncomputable def e_tb_80 : e_X := (e_br 12 (e_br 4 (e_lf 0 (e_un n_80_0)) (e_br 8 (e_lf 4 (e_un n_80_4)) (e_lf 8 (e_un n_80_8)))) (e_br 37 (e_lf 12 (e_un n_80_12)) (e_br 42 (e_lf 37 (e_un n_80_37)) (e_lf 42 (e_un n_80_42)))))
theorem e_tk_80 : e_Tb 80 e_tb_80 := (e_brT (e_brT (e_lfT t_80_0) (e_brT (e_lfT t_80_4) (e_lfT t_80_8))) (e_brT (e_lfT t_80_12) (e_brT (e_lfT t_80_37) (e_lfT t_80_42))))
theorem hq_79 : (e_ml[79]?).map (·.2.1) = some prog_19_method_2_code := rfl
theorem ho_79 : (e_ml[79]?).map (·.1.cls) = some "PlateroomprinterModel$Row" := rfl
theorem hr_79 : (e_ml[79]?).map (·.2.2.2) = some (some .boolean) := rfl
noncomputable def n_79_19 : e_Y := u_tab (o_ret e_okZ)
theorem t_79_19 : e_Sn 79 19 (e_un n_79_19) := u_tabT (s_zret hq_79 hr_79 (by decide +kernel) : e_Sn 79 19 (o_ret e_okZ))
noncomputable def n_79_18 : e_Y := u_push (.inl 2147483648) n_79_19
theorem t_79_18 : e_Sn 79 18 (e_un n_79_18) := u_pushT (s_iconst (n := (0)) hq_79 (by decide +kernel) rfl ⟨by decide +kernel, by decide +kernel⟩ : e_Sn 79 18 (o_push (.inl 2147483648) 19)) t_79_19
noncomputable def n_79_15 : e_Y := n_79_19
theorem t_79_15 : e_Sn 79 15 (e_un n_79_15) := u_gotoT (s_goto (off := (4)) hq_79 (by decide +kernel) rfl : e_Sn 79 15 (o_goto 19)) t_79_19
noncomputable def n_79_14 : e_Y := u_push (.inl 2147483649) n_79_15
theorem t_79_14 : e_Sn 79 14 (e_un n_79_14) := u_pushT (s_iconst (n := (1)) hq_79 (by decide +kernel) rfl ⟨by decide +kernel, by decide +kernel⟩ : e_Sn 79 14 (o_push (.inl 2147483649) 15)) t_79_15
noncomputable def n_79_11 : e_Y := u_jmp y_ne (u_old2 (o_ceq 14 18) 14 n_79_14 n_79_18) n_79_14 n_79_18
theorem t_79_11 : e_Sn 79 11 (e_un n_79_11) := u_ceqT rfl (s_cne (off := (7)) hq_79 (by decide +kernel) rfl rfl : e_Sn 79 11 (o_ceq 14 18)) t_79_14 t_79_18
noncomputable def n_79_8 : e_Y := u_callV 19 117 1 20 1 n_117_0 n_79_11
theorem t_79_8 : e_Sn 79 8 (e_un n_79_8) := u_callVT rfl (s_callV (ci := 19) (C := er_19) (T := et_19) (N := 3) (index := 17) hq_79 ho_79 hy_117 hp_117 hc_117 hi_117 hd_117 (List.mem_of_getElem? (i := 2187) (by decide +kernel)) hs_117 (List.mem_of_getElem? (i := 2002) (by decide +kernel)) rfl (by decide +kernel) rfl : e_Sn 79 8 (o_callV (e_s1 19 117 1) 1 11)) t_117_0 t_79_11
noncomputable def n_79_5 : e_Y := u_getf 15 0 (u_old (o_getf (e_f1 15 0) 8) n_79_8) n_79_8
theorem t_79_5 : e_Sn 79 5 (e_un n_79_5) := u_getfT (s_getf (C := er_15) (T := et_15) (N := 8) (ref := "PlateroomprinterModel$Row") (index := 7) (ci := 15) (k := 0) hq_79 ho_79 ⟨rfl, by decide, ei_15, (List.mem_of_getElem? (i := 2122) (by decide +kernel)), .inl rfl⟩ (by decide +kernel) rfl : e_Sn 79 5 (o_getf (e_f1 15 0) 8)) t_79_8
noncomputable def n_79_4 : e_Y := u_ld f_okA f_l0 n_79_5
theorem t_79_4 : e_Sn 79 4 (e_un n_79_4) := u_ldAT f_l0_eq (s_aload (i := .aload_n 0) (len := 1) hq_79 (by decide +kernel) rfl (.inr ⟨0, rfl, rfl, rfl⟩) : e_Sn 79 4 (o_load e_okR 0 5)) t_79_5
noncomputable def n_79_1 : e_Y := u_getf 15 1 (u_old (o_getf (e_f1 15 1) 4) n_79_4) n_79_4
theorem t_79_1 : e_Sn 79 1 (e_un n_79_1) := u_getfT (s_getf (C := er_15) (T := et_15) (N := 8) (ref := "PlateroomprinterModel$Row") (index := 13) (ci := 15) (k := 1) hq_79 ho_79 ⟨rfl, by decide, ei_15, (List.mem_of_getElem? (i := 2124) (by decide +kernel)), .inl rfl⟩ (by decide +kernel) rfl : e_Sn 79 1 (o_getf (e_f1 15 1) 4)) t_79_4
noncomputable def n_79_0 : e_Y := u_ld f_okA f_l0 n_79_1
theorem t_79_0 : e_Sn 79 0 (e_un n_79_0) := u_ldAT f_l0_eq (s_aload (i := .aload_n 0) (len := 1) hq_79 (by decide +kernel) rfl (.inr ⟨0, rfl, rfl, rfl⟩) : e_Sn 79 0 (o_load e_okR 0 1)) t_79_1
noncomputable def e_tb_79 : e_X := (e_lf 0 (e_un n_79_0))
theorem e_tk_79 : e_Tb 79 e_tb_79 := (e_lfT t_79_0)
theorem hq_96 : (e_ml[96]?).map (·.2.1) = some prog_20_method_6_code := rfl
theorem ho_96 : (e_ml[96]?).map (·.1.cls) = some "PlateroomprinterModel$Run" := rfl
theorem hr_96 : (e_ml[96]?).map (·.2.2.2) = some none := rfl
noncomputable def n_96_53 : e_Y := u_tab (o_retv)
theorem t_96_53 : e_Sn 96 53 (e_un n_96_53) := u_tabT (s_vret hq_96 hr_96 (by decide +kernel) : e_Sn 96 53 (o_retv))
noncomputable def n_96_50 : e_Y := u_old (o_putf (e_f1 15 5) e_okL 53) n_96_53
theorem t_96_50 : e_Sn 96 50 (e_un n_96_50) := u_oldT (s_putf (ty0 := ey_15) (ok := e_okL) (C := er_15) (T := et_15) (N := 8) (ref := "PlateroomprinterModel$Row") (index := 105) (ci := 15) (k := 5) hq_96 ho_96 ⟨rfl, by decide, ei_15, (List.mem_of_getElem? (i := 2129) (by decide +kernel)), .inl rfl⟩ eo_15 en_15 e_oksL (.inl rfl) (by decide +kernel) rfl : e_Sn 96 50 (o_putf (e_f1 15 5) e_okL 53)) t_96_53 (e_cg_putf (e_f1 15 5) e_okL)
noncomputable def n_96_49 : e_Y := u_old (o_ladd 50) n_96_50
theorem t_96_49 : e_Sn 96 49 (e_un n_96_49) := u_oldT (s_ladd hq_96 (by decide +kernel) rfl : e_Sn 96 49 (o_ladd 50)) t_96_50 e_cg_ladd
noncomputable def n_96_46 : e_Y := u_getf 15 6 (u_old (o_getf (e_f1 15 6) 49) n_96_49) n_96_49
theorem t_96_46 : e_Sn 96 46 (e_un n_96_46) := u_getfT (s_getf (C := er_15) (T := et_15) (N := 8) (ref := "PlateroomprinterModel$Row") (index := 101) (ci := 15) (k := 6) hq_96 ho_96 ⟨rfl, by decide, ei_15, (List.mem_of_getElem? (i := 2130) (by decide +kernel)), .inl rfl⟩ (by decide +kernel) rfl : e_Sn 96 46 (o_getf (e_f1 15 6) 49)) t_96_49
noncomputable def n_96_45 : e_Y := u_ld f_okA f_l1 n_96_46
theorem t_96_45 : e_Sn 96 45 (e_un n_96_45) := u_ldAT f_l1_eq (s_aload (i := .aload_n 1) (len := 1) hq_96 (by decide +kernel) rfl (.inr ⟨1, rfl, rfl, rfl⟩) : e_Sn 96 45 (o_load e_okR 1 46)) t_96_46
noncomputable def n_96_42 : e_Y := u_getf 15 5 (u_old (o_getf (e_f1 15 5) 45) n_96_45) n_96_45
theorem t_96_42 : e_Sn 96 42 (e_un n_96_42) := u_getfT (s_getf (C := er_15) (T := et_15) (N := 8) (ref := "PlateroomprinterModel$Row") (index := 105) (ci := 15) (k := 5) hq_96 ho_96 ⟨rfl, by decide, ei_15, (List.mem_of_getElem? (i := 2129) (by decide +kernel)), .inl rfl⟩ (by decide +kernel) rfl : e_Sn 96 42 (o_getf (e_f1 15 5) 45)) t_96_45
noncomputable def n_96_41 : e_Y := u_old (o_dup 42) n_96_42
theorem t_96_41 : e_Sn 96 41 (e_un n_96_41) := u_oldT (s_dup hq_96 (by decide +kernel) rfl : e_Sn 96 41 (o_dup 42)) t_96_42 e_cg_dup
noncomputable def n_96_40 : e_Y := u_ld f_okA f_l1 n_96_41
theorem t_96_40 : e_Sn 96 40 (e_un n_96_40) := u_ldAT f_l1_eq (s_aload (i := .aload_n 1) (len := 1) hq_96 (by decide +kernel) rfl (.inr ⟨1, rfl, rfl, rfl⟩) : e_Sn 96 40 (o_load e_okR 1 41)) t_96_41
noncomputable def n_96_29 : e_Y := u_if y_ne0 (u_old2 (o_ifeq 40 32) 40 n_96_40 (u_at 32)) n_96_40 (u_at 32)
theorem t_96_29 : e_Sn 96 29 (e_un n_96_29) := u_ifeqT rfl (s_ifeq (off := (11)) hq_96 (by decide +kernel) rfl rfl : e_Sn 96 29 (o_ifeq 40 32)) t_96_40 u_atT
noncomputable def n_96_26 : e_Y := u_getf 15 4 (u_old (o_getf (e_f1 15 4) 29) n_96_29) n_96_29
theorem t_96_26 : e_Sn 96 26 (e_un n_96_26) := u_getfT (s_getf (C := er_15) (T := et_15) (N := 8) (ref := "PlateroomprinterModel$Row") (index := 98) (ci := 15) (k := 4) hq_96 ho_96 ⟨rfl, by decide, ei_15, (List.mem_of_getElem? (i := 2128) (by decide +kernel)), .inl rfl⟩ (by decide +kernel) rfl : e_Sn 96 26 (o_getf (e_f1 15 4) 29)) t_96_29
noncomputable def n_96_25 : e_Y := u_ld f_okA f_l1 n_96_26
theorem t_96_25 : e_Sn 96 25 (e_un n_96_25) := u_ldAT f_l1_eq (s_aload (i := .aload_n 1) (len := 1) hq_96 (by decide +kernel) rfl (.inr ⟨1, rfl, rfl, rfl⟩) : e_Sn 96 25 (o_load e_okR 1 26)) t_96_26
noncomputable def n_96_22 : e_Y := u_old (o_putf (e_f1 15 3) e_okI 25) n_96_25
theorem t_96_22 : e_Sn 96 22 (e_un n_96_22) := u_oldT (s_putf (ty0 := ey_15) (ok := e_okI) (C := er_15) (T := et_15) (N := 8) (ref := "PlateroomprinterModel$Row") (index := 111) (ci := 15) (k := 3) hq_96 ho_96 ⟨rfl, by decide, ei_15, (List.mem_of_getElem? (i := 2127) (by decide +kernel)), .inl rfl⟩ eo_15 en_15 e_oksI (.inl rfl) (by decide +kernel) rfl : e_Sn 96 22 (o_putf (e_f1 15 3) e_okI 25)) t_96_25 (e_cg_putf (e_f1 15 3) e_okI)
noncomputable def n_96_21 : e_Y := u_bin a_isub (u_old (o_isub 22) n_96_22) n_96_22
theorem t_96_21 : e_Sn 96 21 (e_un n_96_21) := u_isubT (s_isub hq_96 (by decide +kernel) rfl : e_Sn 96 21 (o_isub 22)) t_96_22
noncomputable def n_96_20 : e_Y := u_push (.inl 2147483649) n_96_21
theorem t_96_20 : e_Sn 96 20 (e_un n_96_20) := u_pushT (s_iconst (n := (1)) hq_96 (by decide +kernel) rfl ⟨by decide +kernel, by decide +kernel⟩ : e_Sn 96 20 (o_push (.inl 2147483649) 21)) t_96_21
noncomputable def n_96_17 : e_Y := u_getf 15 3 (u_old (o_getf (e_f1 15 3) 20) n_96_20) n_96_20
theorem t_96_17 : e_Sn 96 17 (e_un n_96_17) := u_getfT (s_getf (C := er_15) (T := et_15) (N := 8) (ref := "PlateroomprinterModel$Row") (index := 111) (ci := 15) (k := 3) hq_96 ho_96 ⟨rfl, by decide, ei_15, (List.mem_of_getElem? (i := 2127) (by decide +kernel)), .inl rfl⟩ (by decide +kernel) rfl : e_Sn 96 17 (o_getf (e_f1 15 3) 20)) t_96_20
noncomputable def n_96_16 : e_Y := u_old (o_dup 17) n_96_17
theorem t_96_16 : e_Sn 96 16 (e_un n_96_16) := u_oldT (s_dup hq_96 (by decide +kernel) rfl : e_Sn 96 16 (o_dup 17)) t_96_17 e_cg_dup
noncomputable def n_96_15 : e_Y := u_ld f_okA f_l1 n_96_16
theorem t_96_15 : e_Sn 96 15 (e_un n_96_15) := u_ldAT f_l1_eq (s_aload (i := .aload_n 1) (len := 1) hq_96 (by decide +kernel) rfl (.inr ⟨1, rfl, rfl, rfl⟩) : e_Sn 96 15 (o_load e_okR 1 16)) t_96_16
noncomputable def n_96_12 : e_Y := u_old (o_putf (e_f1 15 1) e_okI 15) n_96_15
theorem t_96_12 : e_Sn 96 12 (e_un n_96_12) := u_oldT (s_putf (ty0 := ey_15) (ok := e_okI) (C := er_15) (T := et_15) (N := 8) (ref := "PlateroomprinterModel$Row") (index := 50) (ci := 15) (k := 1) hq_96 ho_96 ⟨rfl, by decide, ei_15, (List.mem_of_getElem? (i := 2125) (by decide +kernel)), .inl rfl⟩ eo_15 en_15 e_oksI (.inl rfl) (by decide +kernel) rfl : e_Sn 96 12 (o_putf (e_f1 15 1) e_okI 15)) t_96_15 (e_cg_putf (e_f1 15 1) e_okI)
noncomputable def n_96_11 : e_Y := u_push (.inl 2147483648) n_96_12
theorem t_96_11 : e_Sn 96 11 (e_un n_96_11) := u_pushT (s_iconst (n := (0)) hq_96 (by decide +kernel) rfl ⟨by decide +kernel, by decide +kernel⟩ : e_Sn 96 11 (o_push (.inl 2147483648) 12)) t_96_12
noncomputable def n_96_10 : e_Y := u_ld f_okA f_l1 n_96_11
theorem t_96_10 : e_Sn 96 10 (e_un n_96_10) := u_ldAT f_l1_eq (s_aload (i := .aload_n 1) (len := 1) hq_96 (by decide +kernel) rfl (.inr ⟨1, rfl, rfl, rfl⟩) : e_Sn 96 10 (o_load e_okR 1 11)) t_96_11
noncomputable def n_96_7 : e_Y := u_old (o_putf (e_f1 16 2) e_okI 10) n_96_10
theorem t_96_7 : e_Sn 96 7 (e_un n_96_7) := u_oldT (s_putf (ty0 := ey_16) (ok := e_okI) (C := er_16) (T := et_16) (N := 5) (ref := "PlateroomprinterModel$Run") (index := 57) (ci := 16) (k := 2) hq_96 ho_96 ⟨rfl, by decide, ei_16, (List.mem_of_getElem? (i := 2152) (by decide +kernel)), .inl rfl⟩ eo_16 en_16 e_oksI (.inl rfl) (by decide +kernel) rfl : e_Sn 96 7 (o_putf (e_f1 16 2) e_okI 10)) t_96_10 (e_cg_putf (e_f1 16 2) e_okI)
noncomputable def n_96_6 : e_Y := u_bin a_iadd (u_old (o_iadd 7) n_96_7) n_96_7
theorem t_96_6 : e_Sn 96 6 (e_un n_96_6) := u_iaddT (s_iadd hq_96 (by decide +kernel) rfl : e_Sn 96 6 (o_iadd 7)) t_96_7
noncomputable def n_96_5 : e_Y := u_push (.inl 2147483649) n_96_6
theorem t_96_5 : e_Sn 96 5 (e_un n_96_5) := u_pushT (s_iconst (n := (1)) hq_96 (by decide +kernel) rfl ⟨by decide +kernel, by decide +kernel⟩ : e_Sn 96 5 (o_push (.inl 2147483649) 6)) t_96_6
noncomputable def n_96_2 : e_Y := u_getf 16 2 (u_old (o_getf (e_f1 16 2) 5) n_96_5) n_96_5
theorem t_96_2 : e_Sn 96 2 (e_un n_96_2) := u_getfT (s_getf (C := er_16) (T := et_16) (N := 5) (ref := "PlateroomprinterModel$Run") (index := 57) (ci := 16) (k := 2) hq_96 ho_96 ⟨rfl, by decide, ei_16, (List.mem_of_getElem? (i := 2152) (by decide +kernel)), .inl rfl⟩ (by decide +kernel) rfl : e_Sn 96 2 (o_getf (e_f1 16 2) 5)) t_96_5
noncomputable def n_96_1 : e_Y := u_old (o_dup 2) n_96_2
theorem t_96_1 : e_Sn 96 1 (e_un n_96_1) := u_oldT (s_dup hq_96 (by decide +kernel) rfl : e_Sn 96 1 (o_dup 2)) t_96_2 e_cg_dup
noncomputable def n_96_0 : e_Y := u_ld f_okA f_l0 n_96_1
theorem t_96_0 : e_Sn 96 0 (e_un n_96_0) := u_ldAT f_l0_eq (s_aload (i := .aload_n 0) (len := 1) hq_96 (by decide +kernel) rfl (.inr ⟨0, rfl, rfl, rfl⟩) : e_Sn 96 0 (o_load e_okR 0 1)) t_96_1
noncomputable def e_tb_96 : e_X := (e_lf 0 (e_un n_96_0))
theorem e_tk_96 : e_Tb 96 e_tb_96 := (e_lfT t_96_0)
theorem hq_87 : (e_ml[87]?).map (·.2.1) = some prog_20_method_5_code := rfl
theorem ho_87 : (e_ml[87]?).map (·.1.cls) = some "PlateroomprinterModel$Run" := rfl
theorem hr_87 : (e_ml[87]?).map (·.2.2.2) = some (some .boolean) := rfl
noncomputable def n_87_109 : e_Y := u_tab (o_ret e_okZ)
theorem t_87_109 : e_Sn 87 109 (e_un n_87_109) := u_tabT (s_zret hq_87 hr_87 (by decide +kernel) : e_Sn 87 109 (o_ret e_okZ))
noncomputable def n_87_108 : e_Y := u_push (.inl 2147483649) n_87_109
theorem t_87_108 : e_Sn 87 108 (e_un n_87_108) := u_pushT (s_iconst (n := (1)) hq_87 (by decide +kernel) rfl ⟨by decide +kernel, by decide +kernel⟩ : e_Sn 87 108 (o_push (.inl 2147483649) 109)) t_87_109
noncomputable def n_87_105 : e_Y := u_callV 16 96 2 21 2 n_96_0 n_87_108
theorem t_87_105 : e_Sn 87 105 (e_un n_87_105) := u_callVT rfl (s_callV (ci := 16) (C := er_16) (T := et_16) (N := 5) (index := 114) hq_87 ho_87 hy_96 hp_96 hc_96 hi_96 hd_96 (List.mem_of_getElem? (i := 2192) (by decide +kernel)) hs_96 (List.mem_of_getElem? (i := 79) (by decide +kernel)) rfl (by decide +kernel) rfl : e_Sn 87 105 (o_callV (e_s1 16 96 2) 2 108)) t_96_0 t_87_108
noncomputable def n_87_104 : e_Y := u_ld f_okA f_l1 n_87_105
theorem t_87_104 : e_Sn 87 104 (e_un n_87_104) := u_ldAT f_l1_eq (s_aload (i := .aload_n 1) (len := 1) hq_87 (by decide +kernel) rfl (.inr ⟨1, rfl, rfl, rfl⟩) : e_Sn 87 104 (o_load e_okR 1 105)) t_87_105
noncomputable def n_87_103 : e_Y := u_ld f_okA f_l0 n_87_104
theorem t_87_103 : e_Sn 87 103 (e_un n_87_103) := u_ldAT f_l0_eq (s_aload (i := .aload_n 0) (len := 1) hq_87 (by decide +kernel) rfl (.inr ⟨0, rfl, rfl, rfl⟩) : e_Sn 87 103 (o_load e_okR 0 104)) t_87_104
noncomputable def n_87_100 : e_Y := u_old (o_putf (e_f1 16 4) e_okI 103) n_87_103
theorem t_87_100 : e_Sn 87 100 (e_un n_87_100) := u_oldT (s_putf (ty0 := ey_16) (ok := e_okI) (C := er_16) (T := et_16) (N := 5) (ref := "PlateroomprinterModel$Run") (index := 22) (ci := 16) (k := 4) hq_87 ho_87 ⟨rfl, by decide, ei_16, (List.mem_of_getElem? (i := 2155) (by decide +kernel)), .inl rfl⟩ eo_16 en_16 e_oksI (.inl rfl) (by decide +kernel) rfl : e_Sn 87 100 (o_putf (e_f1 16 4) e_okI 103)) t_87_103 (e_cg_putf (e_f1 16 4) e_okI)
noncomputable def n_87_99 : e_Y := u_bin a_isub (u_old (o_isub 100) n_87_100) n_87_100
theorem t_87_99 : e_Sn 87 99 (e_un n_87_99) := u_isubT (s_isub hq_87 (by decide +kernel) rfl : e_Sn 87 99 (o_isub 100)) t_87_100
noncomputable def n_87_98 : e_Y := u_push (.inl 2147483649) n_87_99
theorem t_87_98 : e_Sn 87 98 (e_un n_87_98) := u_pushT (s_iconst (n := (1)) hq_87 (by decide +kernel) rfl ⟨by decide +kernel, by decide +kernel⟩ : e_Sn 87 98 (o_push (.inl 2147483649) 99)) t_87_99
noncomputable def n_87_95 : e_Y := u_getf 15 1 (u_old (o_getf (e_f1 15 1) 98) n_87_98) n_87_98
theorem t_87_95 : e_Sn 87 95 (e_un n_87_95) := u_getfT (s_getf (C := er_15) (T := et_15) (N := 8) (ref := "PlateroomprinterModel$Row") (index := 50) (ci := 15) (k := 1) hq_87 ho_87 ⟨rfl, by decide, ei_15, (List.mem_of_getElem? (i := 2125) (by decide +kernel)), .inl rfl⟩ (by decide +kernel) rfl : e_Sn 87 95 (o_getf (e_f1 15 1) 98)) t_87_98
noncomputable def n_87_92 : e_Y := u_old (o_cast 15 95) n_87_95
theorem t_87_92 : e_Sn 87 92 (e_un n_87_92) := u_oldT (s_cast (index := 29) hq_87 ho_87 (List.mem_of_getElem? (i := 2116) (by decide +kernel)) (.inl ⟨by decide, rfl⟩) (by decide +kernel) rfl : e_Sn 87 92 (o_cast 15 95)) t_87_95 (e_cg_cast 15)
noncomputable def n_87_89 : e_Y := u_callV 19 111 2 21 2 n_111_0 n_87_92
theorem t_87_89 : e_Sn 87 89 (e_un n_87_89) := u_callVT rfl (s_callV (ci := 19) (C := er_19) (T := et_19) (N := 3) (index := 42) hq_87 ho_87 hy_111 hp_111 hc_111 hi_111 hd_111 (List.mem_of_getElem? (i := 2182) (by decide +kernel)) hs_111 (List.mem_of_getElem? (i := 2051) (by decide +kernel)) rfl (by decide +kernel) rfl : e_Sn 87 89 (o_callV (e_s1 19 111 2) 2 92)) t_111_0 t_87_92
noncomputable def n_87_88 : e_Y := u_bin a_isub (u_old (o_isub 89) n_87_89) n_87_89
theorem t_87_88 : e_Sn 87 88 (e_un n_87_88) := u_isubT (s_isub hq_87 (by decide +kernel) rfl : e_Sn 87 88 (o_isub 89)) t_87_89
noncomputable def n_87_87 : e_Y := u_push (.inl 2147483650) n_87_88
theorem t_87_87 : e_Sn 87 87 (e_un n_87_87) := u_pushT (s_iconst (n := (2)) hq_87 (by decide +kernel) rfl ⟨by decide +kernel, by decide +kernel⟩ : e_Sn 87 87 (o_push (.inl 2147483650) 88)) t_87_88
noncomputable def n_87_84 : e_Y := u_callV 19 117 1 20 1 n_117_0 n_87_87
theorem t_87_84 : e_Sn 87 84 (e_un n_87_84) := u_callVT rfl (s_callV (ci := 19) (C := er_19) (T := et_19) (N := 3) (index := 38) hq_87 ho_87 hy_117 hp_117 hc_117 hi_117 hd_117 (List.mem_of_getElem? (i := 2181) (by decide +kernel)) hs_117 (List.mem_of_getElem? (i := 2002) (by decide +kernel)) rfl (by decide +kernel) rfl : e_Sn 87 84 (o_callV (e_s1 19 117 1) 1 87)) t_117_0 t_87_87
noncomputable def n_87_81 : e_Y := u_getf 16 1 (u_old (o_getf (e_f1 16 1) 84) n_87_84) n_87_84
theorem t_87_81 : e_Sn 87 81 (e_un n_87_81) := u_getfT (s_getf (C := er_16) (T := et_16) (N := 5) (ref := "PlateroomprinterModel$Run") (index := 12) (ci := 16) (k := 1) hq_87 ho_87 ⟨rfl, by decide, ei_16, (List.mem_of_getElem? (i := 2151) (by decide +kernel)), .inl rfl⟩ (by decide +kernel) rfl : e_Sn 87 81 (o_getf (e_f1 16 1) 84)) t_87_84
noncomputable def n_87_80 : e_Y := u_ld f_okA f_l0 n_87_81
theorem t_87_80 : e_Sn 87 80 (e_un n_87_80) := u_ldAT f_l0_eq (s_aload (i := .aload_n 0) (len := 1) hq_87 (by decide +kernel) rfl (.inr ⟨0, rfl, rfl, rfl⟩) : e_Sn 87 80 (o_load e_okR 0 81)) t_87_81
noncomputable def n_87_77 : e_Y := u_getf 16 1 (u_old (o_getf (e_f1 16 1) 80) n_87_80) n_87_80
theorem t_87_77 : e_Sn 87 77 (e_un n_87_77) := u_getfT (s_getf (C := er_16) (T := et_16) (N := 5) (ref := "PlateroomprinterModel$Run") (index := 12) (ci := 16) (k := 1) hq_87 ho_87 ⟨rfl, by decide, ei_16, (List.mem_of_getElem? (i := 2151) (by decide +kernel)), .inl rfl⟩ (by decide +kernel) rfl : e_Sn 87 77 (o_getf (e_f1 16 1) 80)) t_87_80
noncomputable def n_87_76 : e_Y := u_ld f_okA f_l0 n_87_77
theorem t_87_76 : e_Sn 87 76 (e_un n_87_76) := u_ldAT f_l0_eq (s_aload (i := .aload_n 0) (len := 1) hq_87 (by decide +kernel) rfl (.inr ⟨0, rfl, rfl, rfl⟩) : e_Sn 87 76 (o_load e_okR 0 77)) t_87_77
noncomputable def n_87_75 : e_Y := u_ld f_okA f_l0 n_87_76
theorem t_87_75 : e_Sn 87 75 (e_un n_87_75) := u_ldAT f_l0_eq (s_aload (i := .aload_n 0) (len := 1) hq_87 (by decide +kernel) rfl (.inr ⟨0, rfl, rfl, rfl⟩) : e_Sn 87 75 (o_load e_okR 0 76)) t_87_76
noncomputable def n_87_72 : e_Y := u_old (o_putf (e_f1 16 3) e_okI 75) n_87_75
theorem t_87_72 : e_Sn 87 72 (e_un n_87_72) := u_oldT (s_putf (ty0 := ey_16) (ok := e_okI) (C := er_16) (T := et_16) (N := 5) (ref := "PlateroomprinterModel$Run") (index := 18) (ci := 16) (k := 3) hq_87 ho_87 ⟨rfl, by decide, ei_16, (List.mem_of_getElem? (i := 2153) (by decide +kernel)), .inl rfl⟩ eo_16 en_16 e_oksI (.inl rfl) (by decide +kernel) rfl : e_Sn 87 72 (o_putf (e_f1 16 3) e_okI 75)) t_87_75 (e_cg_putf (e_f1 16 3) e_okI)
noncomputable def n_87_71 : e_Y := u_bin a_isub (u_old (o_isub 72) n_87_72) n_87_72
theorem t_87_71 : e_Sn 87 71 (e_un n_87_71) := u_isubT (s_isub hq_87 (by decide +kernel) rfl : e_Sn 87 71 (o_isub 72)) t_87_72
noncomputable def n_87_70 : e_Y := u_push (.inl 2147483649) n_87_71
theorem t_87_70 : e_Sn 87 70 (e_un n_87_70) := u_pushT (s_iconst (n := (1)) hq_87 (by decide +kernel) rfl ⟨by decide +kernel, by decide +kernel⟩ : e_Sn 87 70 (o_push (.inl 2147483649) 71)) t_87_71
noncomputable def n_87_67 : e_Y := u_getf 15 1 (u_old (o_getf (e_f1 15 1) 70) n_87_70) n_87_70
theorem t_87_67 : e_Sn 87 67 (e_un n_87_67) := u_getfT (s_getf (C := er_15) (T := et_15) (N := 8) (ref := "PlateroomprinterModel$Row") (index := 50) (ci := 15) (k := 1) hq_87 ho_87 ⟨rfl, by decide, ei_15, (List.mem_of_getElem? (i := 2125) (by decide +kernel)), .inl rfl⟩ (by decide +kernel) rfl : e_Sn 87 67 (o_getf (e_f1 15 1) 70)) t_87_70
noncomputable def n_87_64 : e_Y := u_old (o_cast 15 67) n_87_67
theorem t_87_64 : e_Sn 87 64 (e_un n_87_64) := u_oldT (s_cast (index := 29) hq_87 ho_87 (List.mem_of_getElem? (i := 2116) (by decide +kernel)) (.inl ⟨by decide, rfl⟩) (by decide +kernel) rfl : e_Sn 87 64 (o_cast 15 67)) t_87_67 (e_cg_cast 15)
noncomputable def n_87_61 : e_Y := u_callV 19 111 2 21 2 n_111_0 n_87_64
theorem t_87_61 : e_Sn 87 61 (e_un n_87_61) := u_callVT rfl (s_callV (ci := 19) (C := er_19) (T := et_19) (N := 3) (index := 42) hq_87 ho_87 hy_111 hp_111 hc_111 hi_111 hd_111 (List.mem_of_getElem? (i := 2182) (by decide +kernel)) hs_111 (List.mem_of_getElem? (i := 2051) (by decide +kernel)) rfl (by decide +kernel) rfl : e_Sn 87 61 (o_callV (e_s1 19 111 2) 2 64)) t_111_0 t_87_64
noncomputable def n_87_60 : e_Y := u_push (.inl 2147483648) n_87_61
theorem t_87_60 : e_Sn 87 60 (e_un n_87_60) := u_pushT (s_iconst (n := (0)) hq_87 (by decide +kernel) rfl ⟨by decide +kernel, by decide +kernel⟩ : e_Sn 87 60 (o_push (.inl 2147483648) 61)) t_87_61
noncomputable def n_87_57 : e_Y := u_getf 16 1 (u_old (o_getf (e_f1 16 1) 60) n_87_60) n_87_60
theorem t_87_57 : e_Sn 87 57 (e_un n_87_57) := u_getfT (s_getf (C := er_16) (T := et_16) (N := 5) (ref := "PlateroomprinterModel$Run") (index := 12) (ci := 16) (k := 1) hq_87 ho_87 ⟨rfl, by decide, ei_16, (List.mem_of_getElem? (i := 2151) (by decide +kernel)), .inl rfl⟩ (by decide +kernel) rfl : e_Sn 87 57 (o_getf (e_f1 16 1) 60)) t_87_60
noncomputable def n_87_56 : e_Y := u_ld f_okA f_l0 n_87_57
theorem t_87_56 : e_Sn 87 56 (e_un n_87_56) := u_ldAT f_l0_eq (s_aload (i := .aload_n 0) (len := 1) hq_87 (by decide +kernel) rfl (.inr ⟨0, rfl, rfl, rfl⟩) : e_Sn 87 56 (o_load e_okR 0 57)) t_87_57
noncomputable def n_87_55 : e_Y := u_ld f_okA f_l0 n_87_56
theorem t_87_55 : e_Sn 87 55 (e_un n_87_55) := u_ldAT f_l0_eq (s_aload (i := .aload_n 0) (len := 1) hq_87 (by decide +kernel) rfl (.inr ⟨0, rfl, rfl, rfl⟩) : e_Sn 87 55 (o_load e_okR 0 56)) t_87_56
noncomputable def n_87_54 : e_Y := u_tab (o_ret e_okZ)
theorem t_87_54 : e_Sn 87 54 (e_un n_87_54) := u_tabT (s_zret hq_87 hr_87 (by decide +kernel) : e_Sn 87 54 (o_ret e_okZ))
noncomputable def n_87_53 : e_Y := u_push (.inl 2147483648) n_87_54
theorem t_87_53 : e_Sn 87 53 (e_un n_87_53) := u_pushT (s_iconst (n := (0)) hq_87 (by decide +kernel) rfl ⟨by decide +kernel, by decide +kernel⟩ : e_Sn 87 53 (o_push (.inl 2147483648) 54)) t_87_54
noncomputable def n_87_50 : e_Y := u_if y_ne0 (u_old2 (o_ifeq 53 55) 53 n_87_53 n_87_55) n_87_53 n_87_55
theorem t_87_50 : e_Sn 87 50 (e_un n_87_50) := u_ifeqT rfl (s_ifne (off := (5)) hq_87 (by decide +kernel) rfl rfl : e_Sn 87 50 (o_ifeq 53 55)) t_87_53 t_87_55
noncomputable def n_87_47 : e_Y := u_getf 15 3 (u_old (o_getf (e_f1 15 3) 50) n_87_50) n_87_50
theorem t_87_47 : e_Sn 87 47 (e_un n_87_47) := u_getfT (s_getf (C := er_15) (T := et_15) (N := 8) (ref := "PlateroomprinterModel$Row") (index := 111) (ci := 15) (k := 3) hq_87 ho_87 ⟨rfl, by decide, ei_15, (List.mem_of_getElem? (i := 2127) (by decide +kernel)), .inl rfl⟩ (by decide +kernel) rfl : e_Sn 87 47 (o_getf (e_f1 15 3) 50)) t_87_50
noncomputable def n_87_46 : e_Y := u_ld f_okA f_l1 n_87_47
theorem t_87_46 : e_Sn 87 46 (e_un n_87_46) := u_ldAT f_l1_eq (s_aload (i := .aload_n 1) (len := 1) hq_87 (by decide +kernel) rfl (.inr ⟨1, rfl, rfl, rfl⟩) : e_Sn 87 46 (o_load e_okR 1 47)) t_87_47
noncomputable def n_87_4 : e_Y := u_if y_ne0 (u_old2 (o_ifeq 46 7) 46 n_87_46 (u_at 7)) n_87_46 (u_at 7)
theorem t_87_4 : e_Sn 87 4 (e_un n_87_4) := u_ifeqT rfl (s_ifeq (off := (42)) hq_87 (by decide +kernel) rfl rfl : e_Sn 87 4 (o_ifeq 46 7)) t_87_46 u_atT
noncomputable def n_87_1 : e_Y := u_getf 15 4 (u_old (o_getf (e_f1 15 4) 4) n_87_4) n_87_4
theorem t_87_1 : e_Sn 87 1 (e_un n_87_1) := u_getfT (s_getf (C := er_15) (T := et_15) (N := 8) (ref := "PlateroomprinterModel$Row") (index := 98) (ci := 15) (k := 4) hq_87 ho_87 ⟨rfl, by decide, ei_15, (List.mem_of_getElem? (i := 2128) (by decide +kernel)), .inl rfl⟩ (by decide +kernel) rfl : e_Sn 87 1 (o_getf (e_f1 15 4) 4)) t_87_4
noncomputable def n_87_0 : e_Y := u_ld f_okA f_l1 n_87_1
theorem t_87_0 : e_Sn 87 0 (e_un n_87_0) := u_ldAT f_l1_eq (s_aload (i := .aload_n 1) (len := 1) hq_87 (by decide +kernel) rfl (.inr ⟨1, rfl, rfl, rfl⟩) : e_Sn 87 0 (o_load e_okR 1 1)) t_87_1
noncomputable def e_tb_87 : e_X := (e_lf 0 (e_un n_87_0))
theorem e_tk_87 : e_Tb 87 e_tb_87 := (e_lfT t_87_0)
theorem hq_99 : (e_ml[99]?).map (·.2.1) = some prog_20_method_2_code := rfl
theorem ho_99 : (e_ml[99]?).map (·.1.cls) = some "PlateroomprinterModel$Run" := rfl
theorem hr_99 : (e_ml[99]?).map (·.2.2.2) = some (some (.object "PlateroomprinterModel$Row")) := rfl
noncomputable def n_99_19 : e_Y := u_retA
theorem t_99_19 : e_Sn 99 19 (e_un n_99_19) := u_retAT (s_aret (.inl ⟨_, rfl⟩) hq_99 hr_99 (by decide +kernel) : e_Sn 99 19 (o_ret e_okR))
noncomputable def n_99_16 : e_Y := u_old (o_cast 15 19) n_99_19
theorem t_99_16 : e_Sn 99 16 (e_un n_99_16) := u_oldT (s_cast (index := 29) hq_99 ho_99 (List.mem_of_getElem? (i := 2116) (by decide +kernel)) (.inl ⟨by decide, rfl⟩) (by decide +kernel) rfl : e_Sn 99 16 (o_cast 15 19)) t_99_19 (e_cg_cast 15)
noncomputable def n_99_13 : e_Y := u_callV 19 111 2 21 2 n_111_0 n_99_16
theorem t_99_13 : e_Sn 99 13 (e_un n_99_13) := u_callVT rfl (s_callV (ci := 19) (C := er_19) (T := et_19) (N := 3) (index := 42) hq_99 ho_99 hy_111 hp_111 hc_111 hi_111 hd_111 (List.mem_of_getElem? (i := 2182) (by decide +kernel)) hs_111 (List.mem_of_getElem? (i := 2051) (by decide +kernel)) rfl (by decide +kernel) rfl : e_Sn 99 13 (o_callV (e_s1 19 111 2) 2 16)) t_111_0 t_99_16
noncomputable def n_99_12 : e_Y := u_bin a_isub (u_old (o_isub 13) n_99_13) n_99_13
theorem t_99_12 : e_Sn 99 12 (e_un n_99_12) := u_isubT (s_isub hq_99 (by decide +kernel) rfl : e_Sn 99 12 (o_isub 13)) t_99_13
noncomputable def n_99_11 : e_Y := u_push (.inl 2147483649) n_99_12
theorem t_99_11 : e_Sn 99 11 (e_un n_99_11) := u_pushT (s_iconst (n := (1)) hq_99 (by decide +kernel) rfl ⟨by decide +kernel, by decide +kernel⟩ : e_Sn 99 11 (o_push (.inl 2147483649) 12)) t_99_12
noncomputable def n_99_8 : e_Y := u_callV 19 117 1 20 1 n_117_0 n_99_11
theorem t_99_8 : e_Sn 99 8 (e_un n_99_8) := u_callVT rfl (s_callV (ci := 19) (C := er_19) (T := et_19) (N := 3) (index := 38) hq_99 ho_99 hy_117 hp_117 hc_117 hi_117 hd_117 (List.mem_of_getElem? (i := 2181) (by decide +kernel)) hs_117 (List.mem_of_getElem? (i := 2002) (by decide +kernel)) rfl (by decide +kernel) rfl : e_Sn 99 8 (o_callV (e_s1 19 117 1) 1 11)) t_117_0 t_99_11
noncomputable def n_99_5 : e_Y := u_getf 16 1 (u_old (o_getf (e_f1 16 1) 8) n_99_8) n_99_8
theorem t_99_5 : e_Sn 99 5 (e_un n_99_5) := u_getfT (s_getf (C := er_16) (T := et_16) (N := 5) (ref := "PlateroomprinterModel$Run") (index := 12) (ci := 16) (k := 1) hq_99 ho_99 ⟨rfl, by decide, ei_16, (List.mem_of_getElem? (i := 2151) (by decide +kernel)), .inl rfl⟩ (by decide +kernel) rfl : e_Sn 99 5 (o_getf (e_f1 16 1) 8)) t_99_8
noncomputable def n_99_4 : e_Y := u_ld f_okA f_l0 n_99_5
theorem t_99_4 : e_Sn 99 4 (e_un n_99_4) := u_ldAT f_l0_eq (s_aload (i := .aload_n 0) (len := 1) hq_99 (by decide +kernel) rfl (.inr ⟨0, rfl, rfl, rfl⟩) : e_Sn 99 4 (o_load e_okR 0 5)) t_99_5
noncomputable def n_99_1 : e_Y := u_getf 16 1 (u_old (o_getf (e_f1 16 1) 4) n_99_4) n_99_4
theorem t_99_1 : e_Sn 99 1 (e_un n_99_1) := u_getfT (s_getf (C := er_16) (T := et_16) (N := 5) (ref := "PlateroomprinterModel$Run") (index := 12) (ci := 16) (k := 1) hq_99 ho_99 ⟨rfl, by decide, ei_16, (List.mem_of_getElem? (i := 2151) (by decide +kernel)), .inl rfl⟩ (by decide +kernel) rfl : e_Sn 99 1 (o_getf (e_f1 16 1) 4)) t_99_4
noncomputable def n_99_0 : e_Y := u_ld f_okA f_l0 n_99_1
theorem t_99_0 : e_Sn 99 0 (e_un n_99_0) := u_ldAT f_l0_eq (s_aload (i := .aload_n 0) (len := 1) hq_99 (by decide +kernel) rfl (.inr ⟨0, rfl, rfl, rfl⟩) : e_Sn 99 0 (o_load e_okR 0 1)) t_99_1
noncomputable def e_tb_99 : e_X := (e_lf 0 (e_un n_99_0))
theorem e_tk_99 : e_Tb 99 e_tb_99 := (e_lfT t_99_0)
theorem hq_114 : (e_ml[114]?).map (·.2.1) = some prog_50_method_9_code := rfl
theorem ho_114 : (e_ml[114]?).map (·.1.cls) = some "java/util/ArrayList" := rfl
theorem hr_114 : (e_ml[114]?).map (·.2.2.2) = some (some .boolean) := rfl
noncomputable def n_114_12 : e_Y := u_tab (o_ret e_okZ)
theorem t_114_12 : e_Sn 114 12 (e_un n_114_12) := u_tabT (s_zret hq_114 hr_114 (by decide +kernel) : e_Sn 114 12 (o_ret e_okZ))
noncomputable def n_114_11 : e_Y := u_push (.inl 2147483648) n_114_12
theorem t_114_11 : e_Sn 114 11 (e_un n_114_11) := u_pushT (s_iconst (n := (0)) hq_114 (by decide +kernel) rfl ⟨by decide +kernel, by decide +kernel⟩ : e_Sn 114 11 (o_push (.inl 2147483648) 12)) t_114_12
noncomputable def n_114_8 : e_Y := n_114_12
theorem t_114_8 : e_Sn 114 8 (e_un n_114_8) := u_gotoT (s_goto (off := (4)) hq_114 (by decide +kernel) rfl : e_Sn 114 8 (o_goto 12)) t_114_12
noncomputable def n_114_7 : e_Y := u_push (.inl 2147483649) n_114_8
theorem t_114_7 : e_Sn 114 7 (e_un n_114_7) := u_pushT (s_iconst (n := (1)) hq_114 (by decide +kernel) rfl ⟨by decide +kernel, by decide +kernel⟩ : e_Sn 114 7 (o_push (.inl 2147483649) 8)) t_114_8
noncomputable def n_114_4 : e_Y := u_if y_ne0 (u_old2 (o_ifeq 7 11) 7 n_114_7 n_114_11) n_114_7 n_114_11
theorem t_114_4 : e_Sn 114 4 (e_un n_114_4) := u_ifeqT rfl (s_ifne (off := (7)) hq_114 (by decide +kernel) rfl rfl : e_Sn 114 4 (o_ifeq 7 11)) t_114_7 t_114_11
noncomputable def n_114_1 : e_Y := u_getf 19 1 (u_old (o_getf (e_f1 19 1) 4) n_114_4) n_114_4
theorem t_114_1 : e_Sn 114 1 (e_un n_114_1) := u_getfT (s_getf (C := er_19) (T := et_19) (N := 3) (ref := "java/util/ArrayList") (index := 48) (ci := 19) (k := 1) hq_114 ho_114 ⟨rfl, by decide, ei_19, (List.mem_of_getElem? (i := 1767) (by decide +kernel)), .inl rfl⟩ (by decide +kernel) rfl : e_Sn 114 1 (o_getf (e_f1 19 1) 4)) t_114_4
noncomputable def n_114_0 : e_Y := u_ld f_okA f_l0 n_114_1
theorem t_114_0 : e_Sn 114 0 (e_un n_114_0) := u_ldAT f_l0_eq (s_aload (i := .aload_n 0) (len := 1) hq_114 (by decide +kernel) rfl (.inr ⟨0, rfl, rfl, rfl⟩) : e_Sn 114 0 (o_load e_okR 0 1)) t_114_1
noncomputable def e_tb_114 : e_X := (e_lf 0 (e_un n_114_0))
theorem e_tk_114 : e_Tb 114 e_tb_114 := (e_lfT t_114_0)
theorem hq_110 : (e_ml[110]?).map (·.2.1) = some prog_50_method_39_code := rfl
theorem ho_110 : (e_ml[110]?).map (·.1.cls) = some "java/util/ArrayList" := rfl
theorem hr_110 : (e_ml[110]?).map (·.2.2.2) = some none := rfl
noncomputable def n_110_43 : e_Y := u_tab (o_retv)
theorem t_110_43 : e_Sn 110 43 (e_un n_110_43) := u_tabT (s_vret hq_110 hr_110 (by decide +kernel) : e_Sn 110 43 (o_retv))
noncomputable def n_110_42 : e_Y := u_old (o_astR 3 (fun _ => false) 43) n_110_43
theorem t_110_42 : e_Sn 110 42 (e_un n_110_42) := u_oldT (s_aast (tc := 0) (E := "java/lang/Object") hq_110 rfl (by decide) (fun k hk => by cases hk) (by decide +kernel) rfl : e_Sn 110 42 (o_astR 3 (fun _ => false) 43)) t_110_43 (e_cg_astR 3 (fun _ => false))
noncomputable def n_110_41 : e_Y := u_push e_N n_110_42
theorem t_110_41 : e_Sn 110 41 (e_un n_110_41) := u_pushT (s_null hq_110 (by decide +kernel) rfl : e_Sn 110 41 (o_push e_N 42)) t_110_42
noncomputable def n_110_38 : e_Y := u_old (o_putf (e_f1 19 1) e_okI 41) n_110_41
theorem t_110_38 : e_Sn 110 38 (e_un n_110_38) := u_oldT (s_putf (ty0 := ey_19) (ok := e_okI) (C := er_19) (T := et_19) (N := 3) (ref := "java/util/ArrayList") (index := 48) (ci := 19) (k := 1) hq_110 ho_110 ⟨rfl, by decide, ei_19, (List.mem_of_getElem? (i := 1767) (by decide +kernel)), .inl rfl⟩ eo_19 en_19 e_oksI (.inl rfl) (by decide +kernel) rfl : e_Sn 110 38 (o_putf (e_f1 19 1) e_okI 41)) t_110_41 (e_cg_putf (e_f1 19 1) e_okI)
noncomputable def n_110_37 : e_Y := u_old (o_dup_x1 38) n_110_38
theorem t_110_37 : e_Sn 110 37 (e_un n_110_37) := u_oldT (s_dup_x1 hq_110 (by decide +kernel) rfl : e_Sn 110 37 (o_dup_x1 38)) t_110_38 e_cg_dup_x1
noncomputable def n_110_36 : e_Y := u_ld f_okI f_l3 n_110_37
theorem t_110_36 : e_Sn 110 36 (e_un n_110_36) := u_ldIT f_l3_eq (s_iload (i := .iload_n 3) (len := 1) hq_110 (by decide +kernel) rfl (.inr ⟨3, rfl, rfl, rfl⟩) : e_Sn 110 36 (o_load e_okI 3 37)) t_110_37
noncomputable def n_110_35 : e_Y := u_ld f_okA f_l0 n_110_36
theorem t_110_35 : e_Sn 110 35 (e_un n_110_35) := u_ldAT f_l0_eq (s_aload (i := .aload_n 0) (len := 1) hq_110 (by decide +kernel) rfl (.inr ⟨0, rfl, rfl, rfl⟩) : e_Sn 110 35 (o_load e_okR 0 36)) t_110_36
noncomputable def n_110_34 : e_Y := u_ld f_okA f_l1 n_110_35
theorem t_110_34 : e_Sn 110 34 (e_un n_110_34) := u_ldAT f_l1_eq (s_aload (i := .aload_n 1) (len := 1) hq_110 (by decide +kernel) rfl (.inr ⟨1, rfl, rfl, rfl⟩) : e_Sn 110 34 (o_load e_okR 1 35)) t_110_35
noncomputable def n_110_19 : e_Y := u_jmp y_le (u_old2 (o_cgt 22 34) 22 (u_at 22) n_110_34) (u_at 22) n_110_34
theorem t_110_19 : e_Sn 110 19 (e_un n_110_19) := u_cgtT rfl (s_cle (off := (15)) hq_110 (by decide +kernel) rfl rfl : e_Sn 110 19 (o_cgt 22 34)) u_atT t_110_34
noncomputable def n_110_18 : e_Y := u_ld f_okI f_l2 n_110_19
theorem t_110_18 : e_Sn 110 18 (e_un n_110_18) := u_ldIT f_l2_eq (s_iload (i := .iload_n 2) (len := 1) hq_110 (by decide +kernel) rfl (.inr ⟨2, rfl, rfl, rfl⟩) : e_Sn 110 18 (o_load e_okI 2 19)) t_110_19
noncomputable def n_110_17 : e_Y := u_st f_okI f_s3 n_110_18
theorem t_110_17 : e_Sn 110 17 (e_un n_110_17) := u_stIT (fun _ _ _ => f_s3_eq) (s_istore (i := .istore_n 3) (len := 1) hq_110 (by decide +kernel) rfl (.inr ⟨3, rfl, rfl, rfl⟩) : e_Sn 110 17 (o_store e_okI 3 18)) t_110_18
noncomputable def n_110_16 : e_Y := u_old (o_dup 17) n_110_17
theorem t_110_16 : e_Sn 110 16 (e_un n_110_16) := u_oldT (s_dup hq_110 (by decide +kernel) rfl : e_Sn 110 16 (o_dup 17)) t_110_17 e_cg_dup
noncomputable def n_110_15 : e_Y := u_bin a_isub (u_old (o_isub 16) n_110_16) n_110_16
theorem t_110_15 : e_Sn 110 15 (e_un n_110_15) := u_isubT (s_isub hq_110 (by decide +kernel) rfl : e_Sn 110 15 (o_isub 16)) t_110_16
noncomputable def n_110_14 : e_Y := u_push (.inl 2147483649) n_110_15
theorem t_110_14 : e_Sn 110 14 (e_un n_110_14) := u_pushT (s_iconst (n := (1)) hq_110 (by decide +kernel) rfl ⟨by decide +kernel, by decide +kernel⟩ : e_Sn 110 14 (o_push (.inl 2147483649) 15)) t_110_15
noncomputable def n_110_11 : e_Y := u_getf 19 1 (u_old (o_getf (e_f1 19 1) 14) n_110_14) n_110_14
theorem t_110_11 : e_Sn 110 11 (e_un n_110_11) := u_getfT (s_getf (C := er_19) (T := et_19) (N := 3) (ref := "java/util/ArrayList") (index := 48) (ci := 19) (k := 1) hq_110 ho_110 ⟨rfl, by decide, ei_19, (List.mem_of_getElem? (i := 1767) (by decide +kernel)), .inl rfl⟩ (by decide +kernel) rfl : e_Sn 110 11 (o_getf (e_f1 19 1) 14)) t_110_14
noncomputable def n_110_10 : e_Y := u_ld f_okA f_l0 n_110_11
theorem t_110_10 : e_Sn 110 10 (e_un n_110_10) := u_ldAT f_l0_eq (s_aload (i := .aload_n 0) (len := 1) hq_110 (by decide +kernel) rfl (.inr ⟨0, rfl, rfl, rfl⟩) : e_Sn 110 10 (o_load e_okR 0 11)) t_110_11
noncomputable def n_110_7 : e_Y := u_old (o_putf (e_f1 19 2) e_okI 10) n_110_10
theorem t_110_7 : e_Sn 110 7 (e_un n_110_7) := u_oldT (s_putf (ty0 := ey_19) (ok := e_okI) (C := er_19) (T := et_19) (N := 3) (ref := "java/util/ArrayList") (index := 63) (ci := 19) (k := 2) hq_110 ho_110 ⟨rfl, by decide, ei_19, (List.mem_of_getElem? (i := 1771) (by decide +kernel)), .inr (List.mem_of_getElem? (i := 1770) (by decide +kernel))⟩ eo_19 en_19 e_oksI (.inl rfl) (by decide +kernel) rfl : e_Sn 110 7 (o_putf (e_f1 19 2) e_okI 10)) t_110_10 (e_cg_putf (e_f1 19 2) e_okI)
noncomputable def n_110_6 : e_Y := u_bin a_iadd (u_old (o_iadd 7) n_110_7) n_110_7
theorem t_110_6 : e_Sn 110 6 (e_un n_110_6) := u_iaddT (s_iadd hq_110 (by decide +kernel) rfl : e_Sn 110 6 (o_iadd 7)) t_110_7
noncomputable def n_110_5 : e_Y := u_push (.inl 2147483649) n_110_6
theorem t_110_5 : e_Sn 110 5 (e_un n_110_5) := u_pushT (s_iconst (n := (1)) hq_110 (by decide +kernel) rfl ⟨by decide +kernel, by decide +kernel⟩ : e_Sn 110 5 (o_push (.inl 2147483649) 6)) t_110_6
noncomputable def n_110_2 : e_Y := u_getf 19 2 (u_old (o_getf (e_f1 19 2) 5) n_110_5) n_110_5
theorem t_110_2 : e_Sn 110 2 (e_un n_110_2) := u_getfT (s_getf (C := er_19) (T := et_19) (N := 3) (ref := "java/util/ArrayList") (index := 63) (ci := 19) (k := 2) hq_110 ho_110 ⟨rfl, by decide, ei_19, (List.mem_of_getElem? (i := 1771) (by decide +kernel)), .inr (List.mem_of_getElem? (i := 1770) (by decide +kernel))⟩ (by decide +kernel) rfl : e_Sn 110 2 (o_getf (e_f1 19 2) 5)) t_110_5
noncomputable def n_110_1 : e_Y := u_old (o_dup 2) n_110_2
theorem t_110_1 : e_Sn 110 1 (e_un n_110_1) := u_oldT (s_dup hq_110 (by decide +kernel) rfl : e_Sn 110 1 (o_dup 2)) t_110_2 e_cg_dup
noncomputable def n_110_0 : e_Y := u_ld f_okA f_l0 n_110_1
theorem t_110_0 : e_Sn 110 0 (e_un n_110_0) := u_ldAT f_l0_eq (s_aload (i := .aload_n 0) (len := 1) hq_110 (by decide +kernel) rfl (.inr ⟨0, rfl, rfl, rfl⟩) : e_Sn 110 0 (o_load e_okR 0 1)) t_110_1
noncomputable def e_tb_110 : e_X := (e_lf 0 (e_un n_110_0))
theorem e_tk_110 : e_Tb 110 e_tb_110 := (e_lfT t_110_0)
theorem hq_115 : (e_ml[115]?).map (·.2.1) = some prog_50_method_29_code := rfl
theorem ho_115 : (e_ml[115]?).map (·.1.cls) = some "java/util/ArrayList" := rfl
theorem hr_115 : (e_ml[115]?).map (·.2.2.2) = some (some (.object "java/lang/Object")) := rfl
noncomputable def n_115_25 : e_Y := u_retA
theorem t_115_25 : e_Sn 115 25 (e_un n_115_25) := u_retAT (s_aret (.inl ⟨_, rfl⟩) hq_115 hr_115 (by decide +kernel) : e_Sn 115 25 (o_ret e_okR))
noncomputable def n_115_24 : e_Y := u_ld f_okA f_l3 n_115_25
theorem t_115_24 : e_Sn 115 24 (e_un n_115_24) := u_ldAT f_l3_eq (s_aload (i := .aload_n 3) (len := 1) hq_115 (by decide +kernel) rfl (.inr ⟨3, rfl, rfl, rfl⟩) : e_Sn 115 24 (o_load e_okR 3 25)) t_115_25
noncomputable def n_115_21 : e_Y := u_callV 19 110 4 23 3 n_110_0 n_115_24
theorem t_115_21 : e_Sn 115 21 (e_un n_115_21) := u_callVT rfl (s_callV (ci := 19) (C := er_19) (T := et_19) (N := 3) (index := 144) hq_115 ho_115 hy_110 hp_110 hc_110 hi_110 hd_110 (List.mem_of_getElem? (i := 2027) (by decide +kernel)) hs_110 (List.mem_of_getElem? (i := 75) (by decide +kernel)) rfl (by decide +kernel) rfl : e_Sn 115 21 (o_callV (e_s1 19 110 4) 3 24)) t_110_0 t_115_24
noncomputable def n_115_20 : e_Y := u_ld f_okI f_l1 n_115_21
theorem t_115_20 : e_Sn 115 20 (e_un n_115_20) := u_ldIT f_l1_eq (s_iload (i := .iload_n 1) (len := 1) hq_115 (by decide +kernel) rfl (.inr ⟨1, rfl, rfl, rfl⟩) : e_Sn 115 20 (o_load e_okI 1 21)) t_115_21
noncomputable def n_115_19 : e_Y := u_ld f_okA f_l2 n_115_20
theorem t_115_19 : e_Sn 115 19 (e_un n_115_19) := u_ldAT f_l2_eq (s_aload (i := .aload_n 2) (len := 1) hq_115 (by decide +kernel) rfl (.inr ⟨2, rfl, rfl, rfl⟩) : e_Sn 115 19 (o_load e_okR 2 20)) t_115_20
noncomputable def n_115_18 : e_Y := u_ld f_okA f_l0 n_115_19
theorem t_115_18 : e_Sn 115 18 (e_un n_115_18) := u_ldAT f_l0_eq (s_aload (i := .aload_n 0) (len := 1) hq_115 (by decide +kernel) rfl (.inr ⟨0, rfl, rfl, rfl⟩) : e_Sn 115 18 (o_load e_okR 0 19)) t_115_19
noncomputable def n_115_17 : e_Y := u_st f_okA f_s3 n_115_18
theorem t_115_17 : e_Sn 115 17 (e_un n_115_17) := u_stAT (fun _ _ _ => f_s3_eq) (s_astore (i := .astore_n 3) (len := 1) hq_115 (by decide +kernel) rfl (.inr ⟨3, rfl, rfl, rfl⟩) : e_Sn 115 17 (o_store e_okR 3 18)) t_115_18
noncomputable def n_115_16 : e_Y := u_ald 3 (u_old (o_aldO 3 17) n_115_17) n_115_17
theorem t_115_16 : e_Sn 115 16 (e_un n_115_16) := u_aldOT (s_aald (tc := 0) rfl hq_115 (by decide +kernel) rfl : e_Sn 115 16 (o_aldO 3 17)) t_115_17
noncomputable def n_115_15 : e_Y := u_ld f_okI f_l1 n_115_16
theorem t_115_15 : e_Sn 115 15 (e_un n_115_15) := u_ldIT f_l1_eq (s_iload (i := .iload_n 1) (len := 1) hq_115 (by decide +kernel) rfl (.inr ⟨1, rfl, rfl, rfl⟩) : e_Sn 115 15 (o_load e_okI 1 16)) t_115_16
noncomputable def n_115_14 : e_Y := u_ld f_okA f_l2 n_115_15
theorem t_115_14 : e_Sn 115 14 (e_un n_115_14) := u_ldAT f_l2_eq (s_aload (i := .aload_n 2) (len := 1) hq_115 (by decide +kernel) rfl (.inr ⟨2, rfl, rfl, rfl⟩) : e_Sn 115 14 (o_load e_okR 2 15)) t_115_15
noncomputable def n_115_13 : e_Y := u_st f_okA f_s2 n_115_14
theorem t_115_13 : e_Sn 115 13 (e_un n_115_13) := u_stAT (fun _ _ _ => f_s2_eq) (s_astore (i := .astore_n 2) (len := 1) hq_115 (by decide +kernel) rfl (.inr ⟨2, rfl, rfl, rfl⟩) : e_Sn 115 13 (o_store e_okR 2 14)) t_115_14
noncomputable def n_115_10 : e_Y := u_getf 19 0 (u_old (o_getf (e_f1 19 0) 13) n_115_13) n_115_13
theorem t_115_10 : e_Sn 115 10 (e_un n_115_10) := u_getfT (s_getf (C := er_19) (T := et_19) (N := 3) (ref := "java/util/ArrayList") (index := 9) (ci := 19) (k := 0) hq_115 ho_115 ⟨rfl, by decide, ei_19, (List.mem_of_getElem? (i := 1764) (by decide +kernel)), .inl rfl⟩ (by decide +kernel) rfl : e_Sn 115 10 (o_getf (e_f1 19 0) 13)) t_115_13
noncomputable def n_115_9 : e_Y := u_ld f_okA f_l0 n_115_10
theorem t_115_9 : e_Sn 115 9 (e_un n_115_9) := u_ldAT f_l0_eq (s_aload (i := .aload_n 0) (len := 1) hq_115 (by decide +kernel) rfl (.inr ⟨0, rfl, rfl, rfl⟩) : e_Sn 115 9 (o_load e_okR 0 10)) t_115_10
noncomputable def n_115_8 : e_Y := u_pop n_115_9
theorem t_115_8 : e_Sn 115 8 (e_un n_115_8) := u_popT (s_pop hq_115 (by decide +kernel) rfl : e_Sn 115 8 (o_pop 9)) t_115_9
noncomputable def n_115_5 : e_Y := u_callS 118 2 21 2 n_118_0 n_115_8
theorem t_115_5 : e_Sn 115 5 (e_un n_115_5) := u_callST rfl (s_callS (index := 118) hq_115 ho_115 hy_118 hp_118 hc_118 hi_118 hd_118 (List.mem_of_getElem? (i := 2021) (by decide +kernel)) hs_118 (by decide +kernel) rfl : e_Sn 115 5 (o_callS 118 2 2 8)) t_118_0 t_115_8
noncomputable def n_115_2 : e_Y := u_getf 19 1 (u_old (o_getf (e_f1 19 1) 5) n_115_5) n_115_5
theorem t_115_2 : e_Sn 115 2 (e_un n_115_2) := u_getfT (s_getf (C := er_19) (T := et_19) (N := 3) (ref := "java/util/ArrayList") (index := 48) (ci := 19) (k := 1) hq_115 ho_115 ⟨rfl, by decide, ei_19, (List.mem_of_getElem? (i := 1767) (by decide +kernel)), .inl rfl⟩ (by decide +kernel) rfl : e_Sn 115 2 (o_getf (e_f1 19 1) 5)) t_115_5
noncomputable def n_115_1 : e_Y := u_ld f_okA f_l0 n_115_2
theorem t_115_1 : e_Sn 115 1 (e_un n_115_1) := u_ldAT f_l0_eq (s_aload (i := .aload_n 0) (len := 1) hq_115 (by decide +kernel) rfl (.inr ⟨0, rfl, rfl, rfl⟩) : e_Sn 115 1 (o_load e_okR 0 2)) t_115_2
noncomputable def n_115_0 : e_Y := u_ld f_okI f_l1 n_115_1
theorem t_115_0 : e_Sn 115 0 (e_un n_115_0) := u_ldIT f_l1_eq (s_iload (i := .iload_n 1) (len := 1) hq_115 (by decide +kernel) rfl (.inr ⟨1, rfl, rfl, rfl⟩) : e_Sn 115 0 (o_load e_okI 1 1)) t_115_1
noncomputable def e_tb_115 : e_X := (e_lf 0 (e_un n_115_0))
theorem e_tk_115 : e_Tb 115 e_tb_115 := (e_lfT t_115_0)
theorem hq_86 : (e_ml[86]?).map (·.2.1) = some prog_20_method_4_code := rfl
theorem ho_86 : (e_ml[86]?).map (·.1.cls) = some "PlateroomprinterModel$Run" := rfl
theorem hr_86 : (e_ml[86]?).map (·.2.2.2) = some (some .boolean) := rfl
noncomputable def n_86_75 : e_Y := u_tab (o_ret e_okZ)
theorem t_86_75 : e_Sn 86 75 (e_un n_86_75) := u_tabT (s_zret hq_86 hr_86 (by decide +kernel) : e_Sn 86 75 (o_ret e_okZ))
noncomputable def n_86_74 : e_Y := u_push (.inl 2147483648) n_86_75
theorem t_86_74 : e_Sn 86 74 (e_un n_86_74) := u_pushT (s_iconst (n := (0)) hq_86 (by decide +kernel) rfl ⟨by decide +kernel, by decide +kernel⟩ : e_Sn 86 74 (o_push (.inl 2147483648) 75)) t_86_75
noncomputable def n_86_71 : e_Y := n_86_75
theorem t_86_71 : e_Sn 86 71 (e_un n_86_71) := u_gotoT (s_goto (off := (4)) hq_86 (by decide +kernel) rfl : e_Sn 86 71 (o_goto 75)) t_86_75
noncomputable def n_86_70 : e_Y := u_push (.inl 2147483649) n_86_71
theorem t_86_70 : e_Sn 86 70 (e_un n_86_70) := u_pushT (s_iconst (n := (1)) hq_86 (by decide +kernel) rfl ⟨by decide +kernel, by decide +kernel⟩ : e_Sn 86 70 (o_push (.inl 2147483649) 71)) t_86_71
noncomputable def n_86_67 : e_Y := u_if y_ne0 (u_old2 (o_ifeq 70 74) 70 n_86_70 n_86_74) n_86_70 n_86_74
theorem t_86_67 : e_Sn 86 67 (e_un n_86_67) := u_ifeqT rfl (s_ifne (off := (7)) hq_86 (by decide +kernel) rfl rfl : e_Sn 86 67 (o_ifeq 70 74)) t_86_70 t_86_74
noncomputable def n_86_64 : e_Y := u_callV 19 114 1 20 1 n_114_0 n_86_67
theorem t_86_64 : e_Sn 86 64 (e_un n_86_64) := u_callVT rfl (s_callV (ci := 19) (C := er_19) (T := et_19) (N := 3) (index := 81) hq_86 ho_86 hy_114 hp_114 hc_114 hi_114 hd_114 (List.mem_of_getElem? (i := 2176) (by decide +kernel)) hs_114 (List.mem_of_getElem? (i := 2015) (by decide +kernel)) rfl (by decide +kernel) rfl : e_Sn 86 64 (o_callV (e_s1 19 114 1) 1 67)) t_114_0 t_86_67
noncomputable def n_86_61 : e_Y := u_getf 16 1 (u_old (o_getf (e_f1 16 1) 64) n_86_64) n_86_64
theorem t_86_61 : e_Sn 86 61 (e_un n_86_61) := u_getfT (s_getf (C := er_16) (T := et_16) (N := 5) (ref := "PlateroomprinterModel$Run") (index := 12) (ci := 16) (k := 1) hq_86 ho_86 ⟨rfl, by decide, ei_16, (List.mem_of_getElem? (i := 2151) (by decide +kernel)), .inl rfl⟩ (by decide +kernel) rfl : e_Sn 86 61 (o_getf (e_f1 16 1) 64)) t_86_64
noncomputable def n_86_60 : e_Y := u_ld f_okA f_l0 n_86_61
theorem t_86_60 : e_Sn 86 60 (e_un n_86_60) := u_ldAT f_l0_eq (s_aload (i := .aload_n 0) (len := 1) hq_86 (by decide +kernel) rfl (.inr ⟨0, rfl, rfl, rfl⟩) : e_Sn 86 60 (o_load e_okR 0 61)) t_86_61
noncomputable def n_86_57 : e_Y := (u_at 0)
theorem t_86_57 : e_Sn 86 57 (e_un n_86_57) := u_gotoT (s_goto (off := (-57)) hq_86 (by decide +kernel) rfl : e_Sn 86 57 (o_goto 0)) u_atT
noncomputable def n_86_56 : e_Y := u_pop n_86_57
theorem t_86_56 : e_Sn 86 56 (e_un n_86_56) := u_popT (s_pop hq_86 (by decide +kernel) rfl : e_Sn 86 56 (o_pop 57)) t_86_57
noncomputable def n_86_53 : e_Y := u_callV 19 115 4 23 2 n_115_0 n_86_56
theorem t_86_53 : e_Sn 86 53 (e_un n_86_53) := u_callVT rfl (s_callV (ci := 19) (C := er_19) (T := et_19) (N := 3) (index := 95) hq_86 ho_86 hy_115 hp_115 hc_115 hi_115 hd_115 (List.mem_of_getElem? (i := 2253) (by decide +kernel)) hs_115 (List.mem_of_getElem? (i := 2019) (by decide +kernel)) rfl (by decide +kernel) rfl : e_Sn 86 53 (o_callV (e_s1 19 115 4) 2 56)) t_115_0 t_86_56
noncomputable def n_86_52 : e_Y := u_bin a_isub (u_old (o_isub 53) n_86_53) n_86_53
theorem t_86_52 : e_Sn 86 52 (e_un n_86_52) := u_isubT (s_isub hq_86 (by decide +kernel) rfl : e_Sn 86 52 (o_isub 53)) t_86_53
noncomputable def n_86_51 : e_Y := u_push (.inl 2147483649) n_86_52
theorem t_86_51 : e_Sn 86 51 (e_un n_86_51) := u_pushT (s_iconst (n := (1)) hq_86 (by decide +kernel) rfl ⟨by decide +kernel, by decide +kernel⟩ : e_Sn 86 51 (o_push (.inl 2147483649) 52)) t_86_52
noncomputable def n_86_48 : e_Y := u_callV 19 117 1 20 1 n_117_0 n_86_51
theorem t_86_48 : e_Sn 86 48 (e_un n_86_48) := u_callVT rfl (s_callV (ci := 19) (C := er_19) (T := et_19) (N := 3) (index := 38) hq_86 ho_86 hy_117 hp_117 hc_117 hi_117 hd_117 (List.mem_of_getElem? (i := 2181) (by decide +kernel)) hs_117 (List.mem_of_getElem? (i := 2002) (by decide +kernel)) rfl (by decide +kernel) rfl : e_Sn 86 48 (o_callV (e_s1 19 117 1) 1 51)) t_117_0 t_86_51
noncomputable def n_86_45 : e_Y := u_getf 16 1 (u_old (o_getf (e_f1 16 1) 48) n_86_48) n_86_48
theorem t_86_45 : e_Sn 86 45 (e_un n_86_45) := u_getfT (s_getf (C := er_16) (T := et_16) (N := 5) (ref := "PlateroomprinterModel$Run") (index := 12) (ci := 16) (k := 1) hq_86 ho_86 ⟨rfl, by decide, ei_16, (List.mem_of_getElem? (i := 2151) (by decide +kernel)), .inl rfl⟩ (by decide +kernel) rfl : e_Sn 86 45 (o_getf (e_f1 16 1) 48)) t_86_48
noncomputable def n_86_44 : e_Y := u_ld f_okA f_l0 n_86_45
theorem t_86_44 : e_Sn 86 44 (e_un n_86_44) := u_ldAT f_l0_eq (s_aload (i := .aload_n 0) (len := 1) hq_86 (by decide +kernel) rfl (.inr ⟨0, rfl, rfl, rfl⟩) : e_Sn 86 44 (o_load e_okR 0 45)) t_86_45
noncomputable def n_86_41 : e_Y := u_getf 16 1 (u_old (o_getf (e_f1 16 1) 44) n_86_44) n_86_44
theorem t_86_41 : e_Sn 86 41 (e_un n_86_41) := u_getfT (s_getf (C := er_16) (T := et_16) (N := 5) (ref := "PlateroomprinterModel$Run") (index := 12) (ci := 16) (k := 1) hq_86 ho_86 ⟨rfl, by decide, ei_16, (List.mem_of_getElem? (i := 2151) (by decide +kernel)), .inl rfl⟩ (by decide +kernel) rfl : e_Sn 86 41 (o_getf (e_f1 16 1) 44)) t_86_44
noncomputable def n_86_40 : e_Y := u_ld f_okA f_l0 n_86_41
theorem t_86_40 : e_Sn 86 40 (e_un n_86_40) := u_ldAT f_l0_eq (s_aload (i := .aload_n 0) (len := 1) hq_86 (by decide +kernel) rfl (.inr ⟨0, rfl, rfl, rfl⟩) : e_Sn 86 40 (o_load e_okR 0 41)) t_86_41
noncomputable def n_86_37 : e_Y := u_if y_ne0 (u_old2 (o_ifeq 40 57) 40 n_86_40 n_86_57) n_86_40 n_86_57
theorem t_86_37 : e_Sn 86 37 (e_un n_86_37) := u_ifeqT rfl (s_ifne (off := (20)) hq_86 (by decide +kernel) rfl rfl : e_Sn 86 37 (o_ifeq 40 57)) t_86_40 t_86_57
noncomputable def n_86_34 : e_Y := u_callV 16 87 2 21 2 n_87_0 n_86_37
theorem t_86_34 : e_Sn 86 34 (e_un n_86_34) := u_callVT rfl (s_callV (ci := 16) (C := er_16) (T := et_16) (N := 5) (index := 91) hq_86 ho_86 hy_87 hp_87 hc_87 hi_87 hd_87 (List.mem_of_getElem? (i := 2188) (by decide +kernel)) hs_87 (List.mem_of_getElem? (i := 78) (by decide +kernel)) rfl (by decide +kernel) rfl : e_Sn 86 34 (o_callV (e_s1 16 87 2) 2 37)) t_87_0 t_86_37
noncomputable def n_86_33 : e_Y := u_ld f_okA f_l1 n_86_34
theorem t_86_33 : e_Sn 86 33 (e_un n_86_33) := u_ldAT f_l1_eq (s_aload (i := .aload_n 1) (len := 1) hq_86 (by decide +kernel) rfl (.inr ⟨1, rfl, rfl, rfl⟩) : e_Sn 86 33 (o_load e_okR 1 34)) t_86_34
noncomputable def n_86_32 : e_Y := u_ld f_okA f_l0 n_86_33
theorem t_86_32 : e_Sn 86 32 (e_un n_86_32) := u_ldAT f_l0_eq (s_aload (i := .aload_n 0) (len := 1) hq_86 (by decide +kernel) rfl (.inr ⟨0, rfl, rfl, rfl⟩) : e_Sn 86 32 (o_load e_okR 0 33)) t_86_33
noncomputable def n_86_29 : e_Y := u_if y_ne0 (u_old2 (o_ifeq 40 32) 40 n_86_40 n_86_32) n_86_40 n_86_32
theorem t_86_29 : e_Sn 86 29 (e_un n_86_29) := u_ifeqT rfl (s_ifeq (off := (11)) hq_86 (by decide +kernel) rfl rfl : e_Sn 86 29 (o_ifeq 40 32)) t_86_40 t_86_32
noncomputable def n_86_26 : e_Y := u_getf 15 2 (u_old (o_getf (e_f1 15 2) 29) n_86_29) n_86_29
theorem t_86_26 : e_Sn 86 26 (e_un n_86_26) := u_getfT (s_getf (C := er_15) (T := et_15) (N := 8) (ref := "PlateroomprinterModel$Row") (index := 87) (ci := 15) (k := 2) hq_86 ho_86 ⟨rfl, by decide, ei_15, (List.mem_of_getElem? (i := 2126) (by decide +kernel)), .inl rfl⟩ (by decide +kernel) rfl : e_Sn 86 26 (o_getf (e_f1 15 2) 29)) t_86_29
noncomputable def n_86_25 : e_Y := u_ld f_okA f_l1 n_86_26
theorem t_86_25 : e_Sn 86 25 (e_un n_86_25) := u_ldAT f_l1_eq (s_aload (i := .aload_n 1) (len := 1) hq_86 (by decide +kernel) rfl (.inr ⟨1, rfl, rfl, rfl⟩) : e_Sn 86 25 (o_load e_okR 1 26)) t_86_26
noncomputable def n_86_24 : e_Y := u_st f_okA f_s1 n_86_25
theorem t_86_24 : e_Sn 86 24 (e_un n_86_24) := u_stAT (fun _ _ _ => f_s1_eq) (s_astore (i := .astore_n 1) (len := 1) hq_86 (by decide +kernel) rfl (.inr ⟨1, rfl, rfl, rfl⟩) : e_Sn 86 24 (o_store e_okR 1 25)) t_86_25
noncomputable def n_86_21 : e_Y := u_callV 16 99 1 20 1 n_99_0 n_86_24
theorem t_86_21 : e_Sn 86 21 (e_un n_86_21) := u_callVT rfl (s_callV (ci := 16) (C := er_16) (T := et_16) (N := 5) (index := 53) hq_86 ho_86 hy_99 hp_99 hc_99 hi_99 hd_99 (List.mem_of_getElem? (i := 2177) (by decide +kernel)) hs_99 (List.mem_of_getElem? (i := 77) (by decide +kernel)) rfl (by decide +kernel) rfl : e_Sn 86 21 (o_callV (e_s1 16 99 1) 1 24)) t_99_0 t_86_24
noncomputable def n_86_20 : e_Y := u_ld f_okA f_l0 n_86_21
theorem t_86_20 : e_Sn 86 20 (e_un n_86_20) := u_ldAT f_l0_eq (s_aload (i := .aload_n 0) (len := 1) hq_86 (by decide +kernel) rfl (.inr ⟨0, rfl, rfl, rfl⟩) : e_Sn 86 20 (o_load e_okR 0 21)) t_86_21
noncomputable def n_86_17 : e_Y := u_if y_ne0 (u_old2 (o_ifeq 60 20) 60 n_86_60 n_86_20) n_86_60 n_86_20
theorem t_86_17 : e_Sn 86 17 (e_un n_86_17) := u_ifeqT rfl (s_ifeq (off := (43)) hq_86 (by decide +kernel) rfl rfl : e_Sn 86 17 (o_ifeq 60 20)) t_86_60 t_86_20
noncomputable def n_86_14 : e_Y := u_callV 15 79 1 20 1 n_79_0 n_86_17
theorem t_86_14 : e_Sn 86 14 (e_un n_86_14) := u_callVT rfl (s_callV (ci := 15) (C := er_15) (T := et_15) (N := 8) (index := 84) hq_86 ho_86 hy_79 hp_79 hc_79 hi_79 hd_79 (List.mem_of_getElem? (i := 2183) (by decide +kernel)) hs_79 (List.mem_of_getElem? (i := 2185) (by decide +kernel)) rfl (by decide +kernel) rfl : e_Sn 86 14 (o_callV (e_s1 15 79 1) 1 17)) t_79_0 t_86_17
noncomputable def n_86_11 : e_Y := u_callV 16 99 1 20 1 n_99_0 n_86_14
theorem t_86_11 : e_Sn 86 11 (e_un n_86_11) := u_callVT rfl (s_callV (ci := 16) (C := er_16) (T := et_16) (N := 5) (index := 53) hq_86 ho_86 hy_99 hp_99 hc_99 hi_99 hd_99 (List.mem_of_getElem? (i := 2177) (by decide +kernel)) hs_99 (List.mem_of_getElem? (i := 77) (by decide +kernel)) rfl (by decide +kernel) rfl : e_Sn 86 11 (o_callV (e_s1 16 99 1) 1 14)) t_99_0 t_86_14
noncomputable def n_86_10 : e_Y := u_ld f_okA f_l0 n_86_11
theorem t_86_10 : e_Sn 86 10 (e_un n_86_10) := u_ldAT f_l0_eq (s_aload (i := .aload_n 0) (len := 1) hq_86 (by decide +kernel) rfl (.inr ⟨0, rfl, rfl, rfl⟩) : e_Sn 86 10 (o_load e_okR 0 11)) t_86_11
noncomputable def n_86_7 : e_Y := u_if y_ne0 (u_old2 (o_ifeq 10 60) 10 n_86_10 n_86_60) n_86_10 n_86_60
theorem t_86_7 : e_Sn 86 7 (e_un n_86_7) := u_ifeqT rfl (s_ifne (off := (53)) hq_86 (by decide +kernel) rfl rfl : e_Sn 86 7 (o_ifeq 10 60)) t_86_10 t_86_60
noncomputable def n_86_4 : e_Y := u_callV 19 114 1 20 1 n_114_0 n_86_7
theorem t_86_4 : e_Sn 86 4 (e_un n_86_4) := u_callVT rfl (s_callV (ci := 19) (C := er_19) (T := et_19) (N := 3) (index := 81) hq_86 ho_86 hy_114 hp_114 hc_114 hi_114 hd_114 (List.mem_of_getElem? (i := 2176) (by decide +kernel)) hs_114 (List.mem_of_getElem? (i := 2015) (by decide +kernel)) rfl (by decide +kernel) rfl : e_Sn 86 4 (o_callV (e_s1 19 114 1) 1 7)) t_114_0 t_86_7
noncomputable def n_86_1 : e_Y := u_getf 16 1 (u_old (o_getf (e_f1 16 1) 4) n_86_4) n_86_4
theorem t_86_1 : e_Sn 86 1 (e_un n_86_1) := u_getfT (s_getf (C := er_16) (T := et_16) (N := 5) (ref := "PlateroomprinterModel$Run") (index := 12) (ci := 16) (k := 1) hq_86 ho_86 ⟨rfl, by decide, ei_16, (List.mem_of_getElem? (i := 2151) (by decide +kernel)), .inl rfl⟩ (by decide +kernel) rfl : e_Sn 86 1 (o_getf (e_f1 16 1) 4)) t_86_4
noncomputable def n_86_0 : e_Y := u_ld f_okA f_l0 n_86_1
theorem t_86_0 : e_Sn 86 0 (e_un n_86_0) := u_ldAT f_l0_eq (s_aload (i := .aload_n 0) (len := 1) hq_86 (by decide +kernel) rfl (.inr ⟨0, rfl, rfl, rfl⟩) : e_Sn 86 0 (o_load e_okR 0 1)) t_86_1
noncomputable def e_tb_86 : e_X := (e_lf 0 (e_un n_86_0))
theorem e_tk_86 : e_Tb 86 e_tb_86 := (e_lfT t_86_0)
theorem hq_85 : (e_ml[85]?).map (·.2.1) = some prog_20_method_7_code := rfl
theorem ho_85 : (e_ml[85]?).map (·.1.cls) = some "PlateroomprinterModel$Run" := rfl
theorem hr_85 : (e_ml[85]?).map (·.2.2.2) = some none := rfl
noncomputable def n_85_31 : e_Y := u_tab (o_retv)
theorem t_85_31 : e_Sn 85 31 (e_un n_85_31) := u_tabT (s_vret hq_85 hr_85 (by decide +kernel) : e_Sn 85 31 (o_retv))
noncomputable def n_85_30 : e_Y := u_pop n_85_31
theorem t_85_30 : e_Sn 85 30 (e_un n_85_30) := u_popT (s_pop hq_85 (by decide +kernel) rfl : e_Sn 85 30 (o_pop 31)) t_85_31
noncomputable def n_85_27 : e_Y := u_callV 19 107 2 21 2 n_107_0 n_85_30
theorem t_85_27 : e_Sn 85 27 (e_un n_85_27) := u_callVT rfl (s_callV (ci := 19) (C := er_19) (T := et_19) (N := 3) (index := 34) hq_85 ho_85 hy_107 hp_107 hc_107 hi_107 hd_107 (List.mem_of_getElem? (i := 2149) (by decide +kernel)) hs_107 (List.mem_of_getElem? (i := 1822) (by decide +kernel)) rfl (by decide +kernel) rfl : e_Sn 85 27 (o_callV (e_s1 19 107 2) 2 30)) t_107_0 t_85_30
noncomputable def n_85_26 : e_Y := u_ld f_okA f_l1 n_85_27
theorem t_85_26 : e_Sn 85 26 (e_un n_85_26) := u_ldAT f_l1_eq (s_aload (i := .aload_n 1) (len := 1) hq_85 (by decide +kernel) rfl (.inr ⟨1, rfl, rfl, rfl⟩) : e_Sn 85 26 (o_load e_okR 1 27)) t_85_27
noncomputable def n_85_23 : e_Y := u_getf 16 1 (u_old (o_getf (e_f1 16 1) 26) n_85_26) n_85_26
theorem t_85_23 : e_Sn 85 23 (e_un n_85_23) := u_getfT (s_getf (C := er_16) (T := et_16) (N := 5) (ref := "PlateroomprinterModel$Run") (index := 12) (ci := 16) (k := 1) hq_85 ho_85 ⟨rfl, by decide, ei_16, (List.mem_of_getElem? (i := 2151) (by decide +kernel)), .inl rfl⟩ (by decide +kernel) rfl : e_Sn 85 23 (o_getf (e_f1 16 1) 26)) t_85_26
noncomputable def n_85_22 : e_Y := u_ld f_okA f_l0 n_85_23
theorem t_85_22 : e_Sn 85 22 (e_un n_85_22) := u_ldAT f_l0_eq (s_aload (i := .aload_n 0) (len := 1) hq_85 (by decide +kernel) rfl (.inr ⟨0, rfl, rfl, rfl⟩) : e_Sn 85 22 (o_load e_okR 0 23)) t_85_23
noncomputable def n_85_19 : e_Y := u_callS 68 2 21 2 n_68_0 n_85_22
theorem t_85_19 : e_Sn 85 19 (e_un n_85_19) := u_callST rfl (s_callSN (host := "PlateroomprinterModel") (index := 73) hq_85 ho_85 hy_68 hp_68 hc_68 hi_68 hd_68 (List.mem_of_getElem? (i := 2203) (by decide +kernel)) hs_68 (by decide +kernel) rfl : e_Sn 85 19 (o_callS 68 2 2 22)) t_68_0 t_85_22
noncomputable def n_85_17 : e_Y := u_push (.inl 2147483655) n_85_19
theorem t_85_17 : e_Sn 85 17 (e_un n_85_17) := u_pushT (s_bipush (n := (7)) hq_85 (by decide +kernel) rfl ⟨by decide +kernel, by decide +kernel⟩ : e_Sn 85 17 (o_push (.inl 2147483655) 19)) t_85_19
noncomputable def n_85_13 : e_Y := n_85_17
theorem t_85_13 : e_Sn 85 13 (e_un n_85_13) := u_gotoT (s_goto (off := (4)) hq_85 (by decide +kernel) rfl : e_Sn 85 13 (o_goto 17)) t_85_17
noncomputable def n_85_12 : e_Y := u_push (.inl 2147483649) n_85_13
theorem t_85_12 : e_Sn 85 12 (e_un n_85_12) := u_pushT (s_iconst (n := (1)) hq_85 (by decide +kernel) rfl ⟨by decide +kernel, by decide +kernel⟩ : e_Sn 85 12 (o_push (.inl 2147483649) 13)) t_85_13
noncomputable def n_85_9 : e_Y := u_jmp y_ge (u_old2 (o_clt 12 16) 12 n_85_12 (u_at 16)) n_85_12 (u_at 16)
theorem t_85_9 : e_Sn 85 9 (e_un n_85_9) := u_cltT rfl (s_cge (off := (7)) hq_85 (by decide +kernel) rfl rfl : e_Sn 85 9 (o_clt 12 16)) t_85_12 u_atT
noncomputable def n_85_7 : e_Y := u_push (.inl 2147483660) n_85_9
theorem t_85_7 : e_Sn 85 7 (e_un n_85_7) := u_pushT (s_bipush (n := (12)) hq_85 (by decide +kernel) rfl ⟨by decide +kernel, by decide +kernel⟩ : e_Sn 85 7 (o_push (.inl 2147483660) 9)) t_85_9
noncomputable def n_85_4 : e_Y := u_callV 19 117 1 20 1 n_117_0 n_85_7
theorem t_85_4 : e_Sn 85 4 (e_un n_85_4) := u_callVT rfl (s_callV (ci := 19) (C := er_19) (T := et_19) (N := 3) (index := 38) hq_85 ho_85 hy_117 hp_117 hc_117 hi_117 hd_117 (List.mem_of_getElem? (i := 2181) (by decide +kernel)) hs_117 (List.mem_of_getElem? (i := 2002) (by decide +kernel)) rfl (by decide +kernel) rfl : e_Sn 85 4 (o_callV (e_s1 19 117 1) 1 7)) t_117_0 t_85_7
noncomputable def n_85_1 : e_Y := u_getf 16 1 (u_old (o_getf (e_f1 16 1) 4) n_85_4) n_85_4
theorem t_85_1 : e_Sn 85 1 (e_un n_85_1) := u_getfT (s_getf (C := er_16) (T := et_16) (N := 5) (ref := "PlateroomprinterModel$Run") (index := 12) (ci := 16) (k := 1) hq_85 ho_85 ⟨rfl, by decide, ei_16, (List.mem_of_getElem? (i := 2151) (by decide +kernel)), .inl rfl⟩ (by decide +kernel) rfl : e_Sn 85 1 (o_getf (e_f1 16 1) 4)) t_85_4
noncomputable def n_85_0 : e_Y := u_ld f_okA f_l0 n_85_1
theorem t_85_0 : e_Sn 85 0 (e_un n_85_0) := u_ldAT f_l0_eq (s_aload (i := .aload_n 0) (len := 1) hq_85 (by decide +kernel) rfl (.inr ⟨0, rfl, rfl, rfl⟩) : e_Sn 85 0 (o_load e_okR 0 1)) t_85_1
noncomputable def e_tb_85 : e_X := (e_lf 0 (e_un n_85_0))
theorem e_tk_85 : e_Tb 85 e_tb_85 := (e_lfT t_85_0)
theorem hq_83 : (e_ml[83]?).map (·.2.1) = some prog_20_method_20_code := rfl
theorem ho_83 : (e_ml[83]?).map (·.1.cls) = some "PlateroomprinterModel$Run" := rfl
theorem hr_83 : (e_ml[83]?).map (·.2.2.2) = some none := rfl
noncomputable def n_83_69 : e_Y := u_tab (o_retv)
theorem t_83_69 : e_Sn 83 69 (e_un n_83_69) := u_tabT (s_vret hq_83 hr_83 (by decide +kernel) : e_Sn 83 69 (o_retv))
noncomputable def n_83_66 : e_Y := u_callV 16 96 2 21 2 n_96_0 n_83_69
theorem t_83_66 : e_Sn 83 66 (e_un n_83_66) := u_callVT rfl (s_callV (ci := 16) (C := er_16) (T := et_16) (N := 5) (index := 114) hq_83 ho_83 hy_96 hp_96 hc_96 hi_96 hd_96 (List.mem_of_getElem? (i := 2192) (by decide +kernel)) hs_96 (List.mem_of_getElem? (i := 79) (by decide +kernel)) rfl (by decide +kernel) rfl : e_Sn 83 66 (o_callV (e_s1 16 96 2) 2 69)) t_96_0 t_83_69
noncomputable def n_83_65 : e_Y := u_ld f_okA f_l1 n_83_66
theorem t_83_65 : e_Sn 83 65 (e_un n_83_65) := u_ldAT f_l1_eq (s_aload (i := .aload_n 1) (len := 1) hq_83 (by decide +kernel) rfl (.inr ⟨1, rfl, rfl, rfl⟩) : e_Sn 83 65 (o_load e_okR 1 66)) t_83_66
noncomputable def n_83_64 : e_Y := u_ld f_okA f_l0 n_83_65
theorem t_83_64 : e_Sn 83 64 (e_un n_83_64) := u_ldAT f_l0_eq (s_aload (i := .aload_n 0) (len := 1) hq_83 (by decide +kernel) rfl (.inr ⟨0, rfl, rfl, rfl⟩) : e_Sn 83 64 (o_load e_okR 0 65)) t_83_65
noncomputable def n_83_61 : e_Y := u_callV 16 85 2 21 2 n_85_0 n_83_64
theorem t_83_61 : e_Sn 83 61 (e_un n_83_61) := u_callVT rfl (s_callV (ci := 16) (C := er_16) (T := et_16) (N := 5) (index := 182) hq_83 ho_83 hy_85 hp_85 hc_85 hi_85 hd_85 (List.mem_of_getElem? (i := 2287) (by decide +kernel)) hs_85 (List.mem_of_getElem? (i := 89) (by decide +kernel)) rfl (by decide +kernel) rfl : e_Sn 83 61 (o_callV (e_s1 16 85 2) 2 64)) t_85_0 t_83_64
noncomputable def n_83_60 : e_Y := u_ld f_okA f_l1 n_83_61
theorem t_83_60 : e_Sn 83 60 (e_un n_83_60) := u_ldAT f_l1_eq (s_aload (i := .aload_n 1) (len := 1) hq_83 (by decide +kernel) rfl (.inr ⟨1, rfl, rfl, rfl⟩) : e_Sn 83 60 (o_load e_okR 1 61)) t_83_61
noncomputable def n_83_59 : e_Y := u_ld f_okA f_l0 n_83_60
theorem t_83_59 : e_Sn 83 59 (e_un n_83_59) := u_ldAT f_l0_eq (s_aload (i := .aload_n 0) (len := 1) hq_83 (by decide +kernel) rfl (.inr ⟨0, rfl, rfl, rfl⟩) : e_Sn 83 59 (o_load e_okR 0 60)) t_83_60
noncomputable def n_83_55 : e_Y := u_if y_ne0 (u_old2 (o_ifeq 58 59) 58 (u_at 58) n_83_59) (u_at 58) n_83_59
theorem t_83_55 : e_Sn 83 55 (e_un n_83_55) := u_ifeqT rfl (s_ifne (off := (4)) hq_83 (by decide +kernel) rfl rfl : e_Sn 83 55 (o_ifeq 58 59)) u_atT t_83_59
noncomputable def n_83_52 : e_Y := u_getf 15 3 (u_old (o_getf (e_f1 15 3) 55) n_83_55) n_83_55
theorem t_83_52 : e_Sn 83 52 (e_un n_83_52) := u_getfT (s_getf (C := er_15) (T := et_15) (N := 8) (ref := "PlateroomprinterModel$Row") (index := 111) (ci := 15) (k := 3) hq_83 ho_83 ⟨rfl, by decide, ei_15, (List.mem_of_getElem? (i := 2127) (by decide +kernel)), .inl rfl⟩ (by decide +kernel) rfl : e_Sn 83 52 (o_getf (e_f1 15 3) 55)) t_83_55
noncomputable def n_83_51 : e_Y := u_ld f_okA f_l1 n_83_52
theorem t_83_51 : e_Sn 83 51 (e_un n_83_51) := u_ldAT f_l1_eq (s_aload (i := .aload_n 1) (len := 1) hq_83 (by decide +kernel) rfl (.inr ⟨1, rfl, rfl, rfl⟩) : e_Sn 83 51 (o_load e_okR 1 52)) t_83_52
noncomputable def n_83_9 : e_Y := u_if y_ne0 (u_old2 (o_ifeq 51 12) 51 n_83_51 (u_at 12)) n_83_51 (u_at 12)
theorem t_83_9 : e_Sn 83 9 (e_un n_83_9) := u_ifeqT rfl (s_ifeq (off := (42)) hq_83 (by decide +kernel) rfl rfl : e_Sn 83 9 (o_ifeq 51 12)) t_83_51 u_atT
noncomputable def n_83_6 : e_Y := u_getf 15 4 (u_old (o_getf (e_f1 15 4) 9) n_83_9) n_83_9
theorem t_83_6 : e_Sn 83 6 (e_un n_83_6) := u_getfT (s_getf (C := er_15) (T := et_15) (N := 8) (ref := "PlateroomprinterModel$Row") (index := 98) (ci := 15) (k := 4) hq_83 ho_83 ⟨rfl, by decide, ei_15, (List.mem_of_getElem? (i := 2128) (by decide +kernel)), .inl rfl⟩ (by decide +kernel) rfl : e_Sn 83 6 (o_getf (e_f1 15 4) 9)) t_83_9
noncomputable def n_83_5 : e_Y := u_ld f_okA f_l1 n_83_6
theorem t_83_5 : e_Sn 83 5 (e_un n_83_5) := u_ldAT f_l1_eq (s_aload (i := .aload_n 1) (len := 1) hq_83 (by decide +kernel) rfl (.inr ⟨1, rfl, rfl, rfl⟩) : e_Sn 83 5 (o_load e_okR 1 6)) t_83_6
noncomputable def n_83_2 : e_Y := u_old (o_putf (e_f1 15 2) e_okZ 5) n_83_5
theorem t_83_2 : e_Sn 83 2 (e_un n_83_2) := u_oldT (s_putf (ty0 := ey_15) (ok := e_okZ) (C := er_15) (T := et_15) (N := 8) (ref := "PlateroomprinterModel$Row") (index := 87) (ci := 15) (k := 2) hq_83 ho_83 ⟨rfl, by decide, ei_15, (List.mem_of_getElem? (i := 2126) (by decide +kernel)), .inl rfl⟩ eo_15 en_15 e_oksZ (.inl rfl) (by decide +kernel) rfl : e_Sn 83 2 (o_putf (e_f1 15 2) e_okZ 5)) t_83_5 (e_cg_putf (e_f1 15 2) e_okZ)
noncomputable def n_83_1 : e_Y := u_push (.inl 2147483649) n_83_2
theorem t_83_1 : e_Sn 83 1 (e_un n_83_1) := u_pushT (s_iconst (n := (1)) hq_83 (by decide +kernel) rfl ⟨by decide +kernel, by decide +kernel⟩ : e_Sn 83 1 (o_push (.inl 2147483649) 2)) t_83_2
noncomputable def n_83_0 : e_Y := u_ld f_okA f_l1 n_83_1
theorem t_83_0 : e_Sn 83 0 (e_un n_83_0) := u_ldAT f_l1_eq (s_aload (i := .aload_n 1) (len := 1) hq_83 (by decide +kernel) rfl (.inr ⟨1, rfl, rfl, rfl⟩) : e_Sn 83 0 (o_load e_okR 1 1)) t_83_1
noncomputable def e_tb_83 : e_X := (e_lf 0 (e_un n_83_0))
theorem e_tk_83 : e_Tb 83 e_tb_83 := (e_lfT t_83_0)
theorem hq_82 : (e_ml[82]?).map (·.2.1) = some prog_20_method_10_code := rfl
theorem ho_82 : (e_ml[82]?).map (·.1.cls) = some "PlateroomprinterModel$Run" := rfl
theorem hr_82 : (e_ml[82]?).map (·.2.2.2) = some (some (.object "PlateroomprinterModel$Item")) := rfl
noncomputable def n_82_47 : e_Y := u_retA
theorem t_82_47 : e_Sn 82 47 (e_un n_82_47) := u_retAT (s_aret (.inl ⟨_, rfl⟩) hq_82 hr_82 (by decide +kernel) : e_Sn 82 47 (o_ret e_okR))
noncomputable def n_82_44 : e_Y := u_old (o_cast 13 47) n_82_47
theorem t_82_44 : e_Sn 82 44 (e_un n_82_44) := u_oldT (s_cast (index := 133) hq_82 ho_82 (List.mem_of_getElem? (i := 2230) (by decide +kernel)) (.inl ⟨by decide, rfl⟩) (by decide +kernel) rfl : e_Sn 82 44 (o_cast 13 47)) t_82_47 (e_cg_cast 13)
noncomputable def n_82_41 : e_Y := u_callV 19 115 4 23 2 n_115_0 n_82_44
theorem t_82_41 : e_Sn 82 41 (e_un n_82_41) := u_callVT rfl (s_callV (ci := 19) (C := er_19) (T := et_19) (N := 3) (index := 95) hq_82 ho_82 hy_115 hp_115 hc_115 hi_115 hd_115 (List.mem_of_getElem? (i := 2253) (by decide +kernel)) hs_115 (List.mem_of_getElem? (i := 2019) (by decide +kernel)) rfl (by decide +kernel) rfl : e_Sn 82 41 (o_callV (e_s1 19 115 4) 2 44)) t_115_0 t_82_44
noncomputable def n_82_40 : e_Y := u_bin a_isub (u_old (o_isub 41) n_82_41) n_82_41
theorem t_82_40 : e_Sn 82 40 (e_un n_82_40) := u_isubT (s_isub hq_82 (by decide +kernel) rfl : e_Sn 82 40 (o_isub 41)) t_82_41
noncomputable def n_82_39 : e_Y := u_push (.inl 2147483649) n_82_40
theorem t_82_39 : e_Sn 82 39 (e_un n_82_39) := u_pushT (s_iconst (n := (1)) hq_82 (by decide +kernel) rfl ⟨by decide +kernel, by decide +kernel⟩ : e_Sn 82 39 (o_push (.inl 2147483649) 40)) t_82_40
noncomputable def n_82_36 : e_Y := u_callV 19 117 1 20 1 n_117_0 n_82_39
theorem t_82_36 : e_Sn 82 36 (e_un n_82_36) := u_callVT rfl (s_callV (ci := 19) (C := er_19) (T := et_19) (N := 3) (index := 38) hq_82 ho_82 hy_117 hp_117 hc_117 hi_117 hd_117 (List.mem_of_getElem? (i := 2181) (by decide +kernel)) hs_117 (List.mem_of_getElem? (i := 2002) (by decide +kernel)) rfl (by decide +kernel) rfl : e_Sn 82 36 (o_callV (e_s1 19 117 1) 1 39)) t_117_0 t_82_39
noncomputable def n_82_33 : e_Y := u_getf 14 0 (u_old (o_getf (e_f1 14 0) 36) n_82_36) n_82_36
theorem t_82_33 : e_Sn 82 33 (e_un n_82_33) := u_getfT (s_getf (C := er_14) (T := et_14) (N := 13) (ref := "PlateroomprinterModel$Machine") (index := 122) (ci := 14) (k := 0) hq_82 ho_82 ⟨rfl, by decide, ei_14, (List.mem_of_getElem? (i := 1891) (by decide +kernel)), .inl rfl⟩ (by decide +kernel) rfl : e_Sn 82 33 (o_getf (e_f1 14 0) 36)) t_82_36
noncomputable def n_82_30 : e_Y := u_getf 16 0 (u_old (o_getf (e_f1 16 0) 33) n_82_33) n_82_33
theorem t_82_30 : e_Sn 82 30 (e_un n_82_30) := u_getfT (s_getf (C := er_16) (T := et_16) (N := 5) (ref := "PlateroomprinterModel$Run") (index := 25) (ci := 16) (k := 0) hq_82 ho_82 ⟨rfl, by decide, ei_16, (List.mem_of_getElem? (i := 2150) (by decide +kernel)), .inl rfl⟩ (by decide +kernel) rfl : e_Sn 82 30 (o_getf (e_f1 16 0) 33)) t_82_33
noncomputable def n_82_29 : e_Y := u_ld f_okA f_l0 n_82_30
theorem t_82_29 : e_Sn 82 29 (e_un n_82_29) := u_ldAT f_l0_eq (s_aload (i := .aload_n 0) (len := 1) hq_82 (by decide +kernel) rfl (.inr ⟨0, rfl, rfl, rfl⟩) : e_Sn 82 29 (o_load e_okR 0 30)) t_82_30
noncomputable def n_82_26 : e_Y := u_getf 14 0 (u_old (o_getf (e_f1 14 0) 29) n_82_29) n_82_29
theorem t_82_26 : e_Sn 82 26 (e_un n_82_26) := u_getfT (s_getf (C := er_14) (T := et_14) (N := 13) (ref := "PlateroomprinterModel$Machine") (index := 122) (ci := 14) (k := 0) hq_82 ho_82 ⟨rfl, by decide, ei_14, (List.mem_of_getElem? (i := 1891) (by decide +kernel)), .inl rfl⟩ (by decide +kernel) rfl : e_Sn 82 26 (o_getf (e_f1 14 0) 29)) t_82_29
noncomputable def n_82_23 : e_Y := u_getf 16 0 (u_old (o_getf (e_f1 16 0) 26) n_82_26) n_82_26
theorem t_82_23 : e_Sn 82 23 (e_un n_82_23) := u_getfT (s_getf (C := er_16) (T := et_16) (N := 5) (ref := "PlateroomprinterModel$Run") (index := 25) (ci := 16) (k := 0) hq_82 ho_82 ⟨rfl, by decide, ei_16, (List.mem_of_getElem? (i := 2150) (by decide +kernel)), .inl rfl⟩ (by decide +kernel) rfl : e_Sn 82 23 (o_getf (e_f1 16 0) 26)) t_82_26
noncomputable def n_82_22 : e_Y := u_ld f_okA f_l0 n_82_23
theorem t_82_22 : e_Sn 82 22 (e_un n_82_22) := u_ldAT f_l0_eq (s_aload (i := .aload_n 0) (len := 1) hq_82 (by decide +kernel) rfl (.inr ⟨0, rfl, rfl, rfl⟩) : e_Sn 82 22 (o_load e_okR 0 23)) t_82_23
noncomputable def n_82_19 : e_Y := u_callS 68 2 21 2 n_68_0 n_82_22
theorem t_82_19 : e_Sn 82 19 (e_un n_82_19) := u_callST rfl (s_callSN (host := "PlateroomprinterModel") (index := 73) hq_82 ho_82 hy_68 hp_68 hc_68 hi_68 hd_68 (List.mem_of_getElem? (i := 2203) (by decide +kernel)) hs_68 (by decide +kernel) rfl : e_Sn 82 19 (o_callS 68 2 2 22)) t_68_0 t_82_22
noncomputable def n_82_18 : e_Y := u_push (.inl 2147483649) n_82_19
theorem t_82_18 : e_Sn 82 18 (e_un n_82_18) := u_pushT (s_iconst (n := (1)) hq_82 (by decide +kernel) rfl ⟨by decide +kernel, by decide +kernel⟩ : e_Sn 82 18 (o_push (.inl 2147483649) 19)) t_82_19
noncomputable def n_82_14 : e_Y := n_82_18
theorem t_82_14 : e_Sn 82 14 (e_un n_82_14) := u_gotoT (s_goto (off := (4)) hq_82 (by decide +kernel) rfl : e_Sn 82 14 (o_goto 18)) t_82_18
noncomputable def n_82_13 : e_Y := u_push (.inl 2147483649) n_82_14
theorem t_82_13 : e_Sn 82 13 (e_un n_82_13) := u_pushT (s_iconst (n := (1)) hq_82 (by decide +kernel) rfl ⟨by decide +kernel, by decide +kernel⟩ : e_Sn 82 13 (o_push (.inl 2147483649) 14)) t_82_14
noncomputable def n_82_10 : e_Y := u_if y_ne0 (u_old2 (o_ifeq 13 17) 13 n_82_13 (u_at 17)) n_82_13 (u_at 17)
theorem t_82_10 : e_Sn 82 10 (e_un n_82_10) := u_ifeqT rfl (s_ifne (off := (7)) hq_82 (by decide +kernel) rfl rfl : e_Sn 82 10 (o_ifeq 13 17)) t_82_13 u_atT
noncomputable def n_82_7 : e_Y := u_callV 19 114 1 20 1 n_114_0 n_82_10
theorem t_82_7 : e_Sn 82 7 (e_un n_82_7) := u_callVT rfl (s_callV (ci := 19) (C := er_19) (T := et_19) (N := 3) (index := 81) hq_82 ho_82 hy_114 hp_114 hc_114 hi_114 hd_114 (List.mem_of_getElem? (i := 2176) (by decide +kernel)) hs_114 (List.mem_of_getElem? (i := 2015) (by decide +kernel)) rfl (by decide +kernel) rfl : e_Sn 82 7 (o_callV (e_s1 19 114 1) 1 10)) t_114_0 t_82_10
noncomputable def n_82_4 : e_Y := u_getf 14 0 (u_old (o_getf (e_f1 14 0) 7) n_82_7) n_82_7
theorem t_82_4 : e_Sn 82 4 (e_un n_82_4) := u_getfT (s_getf (C := er_14) (T := et_14) (N := 13) (ref := "PlateroomprinterModel$Machine") (index := 122) (ci := 14) (k := 0) hq_82 ho_82 ⟨rfl, by decide, ei_14, (List.mem_of_getElem? (i := 1891) (by decide +kernel)), .inl rfl⟩ (by decide +kernel) rfl : e_Sn 82 4 (o_getf (e_f1 14 0) 7)) t_82_7
noncomputable def n_82_1 : e_Y := u_getf 16 0 (u_old (o_getf (e_f1 16 0) 4) n_82_4) n_82_4
theorem t_82_1 : e_Sn 82 1 (e_un n_82_1) := u_getfT (s_getf (C := er_16) (T := et_16) (N := 5) (ref := "PlateroomprinterModel$Run") (index := 25) (ci := 16) (k := 0) hq_82 ho_82 ⟨rfl, by decide, ei_16, (List.mem_of_getElem? (i := 2150) (by decide +kernel)), .inl rfl⟩ (by decide +kernel) rfl : e_Sn 82 1 (o_getf (e_f1 16 0) 4)) t_82_4
noncomputable def n_82_0 : e_Y := u_ld f_okA f_l0 n_82_1
theorem t_82_0 : e_Sn 82 0 (e_un n_82_0) := u_ldAT f_l0_eq (s_aload (i := .aload_n 0) (len := 1) hq_82 (by decide +kernel) rfl (.inr ⟨0, rfl, rfl, rfl⟩) : e_Sn 82 0 (o_load e_okR 0 1)) t_82_1
noncomputable def e_tb_82 : e_X := (e_lf 0 (e_un n_82_0))
theorem e_tk_82 : e_Tb 82 e_tb_82 := (e_lfT t_82_0)
theorem hq_97 : (e_ml[97]?).map (·.2.1) = some prog_20_method_11_code := rfl
theorem ho_97 : (e_ml[97]?).map (·.1.cls) = some "PlateroomprinterModel$Run" := rfl
theorem hr_97 : (e_ml[97]?).map (·.2.2.2) = some (some (.object "PlateroomprinterModel$Item")) := rfl
noncomputable def n_97_23 : e_Y := u_retA
theorem t_97_23 : e_Sn 97 23 (e_un n_97_23) := u_retAT (s_aret (.inl ⟨_, rfl⟩) hq_97 hr_97 (by decide +kernel) : e_Sn 97 23 (o_ret e_okR))
noncomputable def n_97_22 : e_Y := u_ld f_okA f_l2 n_97_23
theorem t_97_22 : e_Sn 97 22 (e_un n_97_22) := u_ldAT f_l2_eq (s_aload (i := .aload_n 2) (len := 1) hq_97 (by decide +kernel) rfl (.inr ⟨2, rfl, rfl, rfl⟩) : e_Sn 97 22 (o_load e_okR 2 23)) t_97_23
noncomputable def n_97_19 : e_Y := u_callS 68 2 21 2 n_68_0 n_97_22
theorem t_97_19 : e_Sn 97 19 (e_un n_97_19) := u_callST rfl (s_callSN (host := "PlateroomprinterModel") (index := 73) hq_97 ho_97 hy_68 hp_68 hc_68 hi_68 hd_68 (List.mem_of_getElem? (i := 2203) (by decide +kernel)) hs_68 (by decide +kernel) rfl : e_Sn 97 19 (o_callS 68 2 2 22)) t_68_0 t_97_22
noncomputable def n_97_18 : e_Y := u_push (.inl 2147483650) n_97_19
theorem t_97_18 : e_Sn 97 18 (e_un n_97_18) := u_pushT (s_iconst (n := (2)) hq_97 (by decide +kernel) rfl ⟨by decide +kernel, by decide +kernel⟩ : e_Sn 97 18 (o_push (.inl 2147483650) 19)) t_97_19
noncomputable def n_97_14 : e_Y := n_97_18
theorem t_97_14 : e_Sn 97 14 (e_un n_97_14) := u_gotoT (s_goto (off := (4)) hq_97 (by decide +kernel) rfl : e_Sn 97 14 (o_goto 18)) t_97_18
noncomputable def n_97_13 : e_Y := u_push (.inl 2147483649) n_97_14
theorem t_97_13 : e_Sn 97 13 (e_un n_97_13) := u_pushT (s_iconst (n := (1)) hq_97 (by decide +kernel) rfl ⟨by decide +kernel, by decide +kernel⟩ : e_Sn 97 13 (o_push (.inl 2147483649) 14)) t_97_14
noncomputable def n_97_10 : e_Y := u_jmp y_ne (u_old2 (o_ceq 13 17) 13 n_97_13 (u_at 17)) n_97_13 (u_at 17)
theorem t_97_10 : e_Sn 97 10 (e_un n_97_10) := u_ceqT rfl (s_cne (off := (7)) hq_97 (by decide +kernel) rfl rfl : e_Sn 97 10 (o_ceq 13 17)) t_97_13 u_atT
noncomputable def n_97_9 : e_Y := u_ld f_okI f_l1 n_97_10
theorem t_97_9 : e_Sn 97 9 (e_un n_97_9) := u_ldIT f_l1_eq (s_iload (i := .iload_n 1) (len := 1) hq_97 (by decide +kernel) rfl (.inr ⟨1, rfl, rfl, rfl⟩) : e_Sn 97 9 (o_load e_okI 1 10)) t_97_10
noncomputable def n_97_6 : e_Y := u_getf 13 0 (u_old (o_getf (e_f1 13 0) 9) n_97_9) n_97_9
theorem t_97_6 : e_Sn 97 6 (e_un n_97_6) := u_getfT (s_getf (C := er_13) (T := et_13) (N := 3) (ref := "PlateroomprinterModel$Item") (index := 146) (ci := 13) (k := 0) hq_97 ho_97 ⟨rfl, by decide, ei_13, (List.mem_of_getElem? (i := 2237) (by decide +kernel)), .inl rfl⟩ (by decide +kernel) rfl : e_Sn 97 6 (o_getf (e_f1 13 0) 9)) t_97_9
noncomputable def n_97_5 : e_Y := u_ld f_okA f_l2 n_97_6
theorem t_97_5 : e_Sn 97 5 (e_un n_97_5) := u_ldAT f_l2_eq (s_aload (i := .aload_n 2) (len := 1) hq_97 (by decide +kernel) rfl (.inr ⟨2, rfl, rfl, rfl⟩) : e_Sn 97 5 (o_load e_okR 2 6)) t_97_6
noncomputable def n_97_4 : e_Y := u_st f_okA f_s2 n_97_5
theorem t_97_4 : e_Sn 97 4 (e_un n_97_4) := u_stAT (fun _ _ _ => f_s2_eq) (s_astore (i := .astore_n 2) (len := 1) hq_97 (by decide +kernel) rfl (.inr ⟨2, rfl, rfl, rfl⟩) : e_Sn 97 4 (o_store e_okR 2 5)) t_97_5
noncomputable def n_97_1 : e_Y := u_callV 16 82 1 20 1 n_82_0 n_97_4
theorem t_97_1 : e_Sn 97 1 (e_un n_97_1) := u_callVT rfl (s_callV (ci := 16) (C := er_16) (T := et_16) (N := 5) (index := 142) hq_97 ho_97 hy_82 hp_82 hc_82 hi_82 hd_82 (List.mem_of_getElem? (i := 2275) (by decide +kernel)) hs_82 (List.mem_of_getElem? (i := 87) (by decide +kernel)) rfl (by decide +kernel) rfl : e_Sn 97 1 (o_callV (e_s1 16 82 1) 1 4)) t_82_0 t_97_4
noncomputable def n_97_0 : e_Y := u_ld f_okA f_l0 n_97_1
theorem t_97_0 : e_Sn 97 0 (e_un n_97_0) := u_ldAT f_l0_eq (s_aload (i := .aload_n 0) (len := 1) hq_97 (by decide +kernel) rfl (.inr ⟨0, rfl, rfl, rfl⟩) : e_Sn 97 0 (o_load e_okR 0 1)) t_97_1
noncomputable def e_tb_97 : e_X := (e_lf 0 (e_un n_97_0))
theorem e_tk_97 : e_Tb 97 e_tb_97 := (e_lfT t_97_0)
end SN
