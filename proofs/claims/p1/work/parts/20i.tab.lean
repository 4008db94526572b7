/-! TABLES, by program -/
section SN
theorem hq_181 : (e_ml[181]?).map (·.2.1) = some prog_14_method_80_code := rfl
theorem ho_181 : (e_ml[181]?).map (·.1.cls) = some "PlateroomprinterModel" := rfl
theorem hr_181 : (e_ml[181]?).map (·.2.2.2) = some (some .int) := rfl
noncomputable def n_181_34 : e_Y := u_retI
theorem t_181_34 : e_Sn 181 34 (e_un n_181_34) := u_retIT (s_iret hq_181 hr_181 (by decide +kernel) : e_Sn 181 34 (o_ret e_okI))
noncomputable def n_181_31 : e_Y := u_callV 12 182 4 23 2 n_182_0 n_181_34
theorem t_181_31 : e_Sn 181 31 (e_un n_181_31) := u_callVT rfl (s_callV (ci := 12) (C := er_12) (T := et_12) (N := 5) (index := 367) hq_181 ho_181 hy_182 hp_182 hc_182 hi_182 hd_182 (List.mem_of_getElem? (i := 3130) (by decide +kernel)) hs_182 (List.mem_of_getElem? (i := 135) (by decide +kernel)) rfl (by decide +kernel) rfl : e_Sn 181 31 (o_callV (e_s1 12 182 4) 2 34)) t_182_0 t_181_34
noncomputable def n_181_30 : e_Y := u_ld f_okI f_l1 n_181_31
theorem t_181_30 : e_Sn 181 30 (e_un n_181_30) := u_ldIT f_l1_eq (s_iload (i := .iload_n 1) (len := 1) hq_181 (by decide +kernel) rfl (.inr ⟨1, rfl, rfl, rfl⟩) : e_Sn 181 30 (o_load e_okI 1 31)) t_181_31
noncomputable def n_181_29 : e_Y := u_ld f_okA f_l0 n_181_30
theorem t_181_29 : e_Sn 181 29 (e_un n_181_29) := u_ldAT f_l0_eq (s_aload (i := .aload_n 0) (len := 1) hq_181 (by decide +kernel) rfl (.inr ⟨0, rfl, rfl, rfl⟩) : e_Sn 181 29 (o_load e_okR 0 30)) t_181_30
noncomputable def n_181_26 : e_Y := n_181_34
theorem t_181_26 : e_Sn 181 26 (e_un n_181_26) := u_gotoT (s_goto (off := (8)) hq_181 (by decide +kernel) rfl : e_Sn 181 26 (o_goto 34)) t_181_34
noncomputable def n_181_25 : e_Y := u_push (.inl 2147483648) n_181_26
theorem t_181_25 : e_Sn 181 25 (e_un n_181_25) := u_pushT (s_iconst (n := (0)) hq_181 (by decide +kernel) rfl ⟨by decide +kernel, by decide +kernel⟩ : e_Sn 181 25 (o_push (.inl 2147483648) 26)) t_181_26
noncomputable def n_181_22 : e_Y := u_if y_ne0 (u_old2 (o_ifeq 29 25) 29 n_181_29 n_181_25) n_181_29 n_181_25
theorem t_181_22 : e_Sn 181 22 (e_un n_181_22) := u_ifeqT rfl (s_ifeq (off := (7)) hq_181 (by decide +kernel) rfl rfl : e_Sn 181 22 (o_ifeq 29 25)) t_181_29 t_181_25
noncomputable def n_181_19 : e_Y := u_callV 12 195 3 22 3 n_195_0 n_181_22
theorem t_181_19 : e_Sn 181 19 (e_un n_181_19) := u_callVT rfl (s_callV (ci := 12) (C := er_12) (T := et_12) (N := 5) (index := 148) hq_181 ho_181 hy_195 hp_195 hc_195 hi_195 hd_195 (List.mem_of_getElem? (i := 1992) (by decide +kernel)) hs_195 (List.mem_of_getElem? (i := 73) (by decide +kernel)) rfl (by decide +kernel) rfl : e_Sn 181 19 (o_callV (e_s1 12 195 3) 3 22)) t_195_0 t_181_22
noncomputable def n_181_18 : e_Y := u_push (.inl 2147483649) n_181_19
theorem t_181_18 : e_Sn 181 18 (e_un n_181_18) := u_pushT (s_iconst (n := (1)) hq_181 (by decide +kernel) rfl ⟨by decide +kernel, by decide +kernel⟩ : e_Sn 181 18 (o_push (.inl 2147483649) 19)) t_181_19
noncomputable def n_181_17 : e_Y := u_push (.inl 2147483648) n_181_18
theorem t_181_17 : e_Sn 181 17 (e_un n_181_17) := u_pushT (s_iconst (n := (0)) hq_181 (by decide +kernel) rfl ⟨by decide +kernel, by decide +kernel⟩ : e_Sn 181 17 (o_push (.inl 2147483648) 18)) t_181_18
noncomputable def n_181_14 : e_Y := n_181_18
theorem t_181_14 : e_Sn 181 14 (e_un n_181_14) := u_gotoT (s_goto (off := (4)) hq_181 (by decide +kernel) rfl : e_Sn 181 14 (o_goto 18)) t_181_18
noncomputable def n_181_13 : e_Y := u_push (.inl 2147483649) n_181_14
theorem t_181_13 : e_Sn 181 13 (e_un n_181_13) := u_pushT (s_iconst (n := (1)) hq_181 (by decide +kernel) rfl ⟨by decide +kernel, by decide +kernel⟩ : e_Sn 181 13 (o_push (.inl 2147483649) 14)) t_181_14
noncomputable def n_181_10 : e_Y := u_if y_ne0 (u_old2 (o_ifeq 13 17) 13 n_181_13 n_181_17) n_181_13 n_181_17
theorem t_181_10 : e_Sn 181 10 (e_un n_181_10) := u_ifeqT rfl (s_ifne (off := (7)) hq_181 (by decide +kernel) rfl rfl : e_Sn 181 10 (o_ifeq 13 17)) t_181_13 t_181_17
noncomputable def n_181_7 : e_Y := u_callS 162 6 25 3 n_162_0 n_181_10
theorem t_181_7 : e_Sn 181 7 (e_un n_181_7) := u_callST rfl (s_callS (index := 136) hq_181 ho_181 hy_162 hp_162 hc_162 hi_162 hd_162 (List.mem_of_getElem? (i := 1987) (by decide +kernel)) hs_162 (by decide +kernel) rfl : e_Sn 181 7 (o_callS 162 6 3 10)) t_162_0 t_181_10
noncomputable def n_181_4 : e_Y := u_push (e_L 9223372036854775813) n_181_7
theorem t_181_4 : e_Sn 181 4 (e_un n_181_4) := u_pushT (s_ldc2 (index := 256) (v := (5)) hq_181 ho_181 (List.mem_of_getElem? (i := 2964) (by decide +kernel)) (by decide +kernel) rfl ⟨by decide +kernel, by decide +kernel⟩ : e_Sn 181 4 (o_push (e_L 9223372036854775813) 7)) t_181_7
noncomputable def n_181_3 : e_Y := u_push (e_L 9223372036854775808) n_181_4
theorem t_181_3 : e_Sn 181 3 (e_un n_181_3) := u_pushT (s_lconst (n := 0) hq_181 (by decide +kernel) rfl ⟨by decide +kernel, by decide +kernel⟩ : e_Sn 181 3 (o_push (e_L 9223372036854775808) 4)) t_181_4
noncomputable def n_181_2 : e_Y := u_old (o_i2l 3) n_181_3
theorem t_181_2 : e_Sn 181 2 (e_un n_181_2) := u_oldT (s_i2l hq_181 (by decide +kernel) rfl : e_Sn 181 2 (o_i2l 3)) t_181_3 e_congr_i2l
noncomputable def n_181_1 : e_Y := u_ld f_okI f_l1 n_181_2
theorem t_181_1 : e_Sn 181 1 (e_un n_181_1) := u_ldIT f_l1_eq (s_iload (i := .iload_n 1) (len := 1) hq_181 (by decide +kernel) rfl (.inr ⟨1, rfl, rfl, rfl⟩) : e_Sn 181 1 (o_load e_okI 1 2)) t_181_2
noncomputable def n_181_0 : e_Y := u_ld f_okA f_l0 n_181_1
theorem t_181_0 : e_Sn 181 0 (e_un n_181_0) := u_ldAT f_l0_eq (s_aload (i := .aload_n 0) (len := 1) hq_181 (by decide +kernel) rfl (.inr ⟨0, rfl, rfl, rfl⟩) : e_Sn 181 0 (o_load e_okR 0 1)) t_181_1
noncomputable def e_tb_181 : e_X := (e_lf 0 (e_un n_181_0))
theorem e_tk_181 : e_Tb 181 e_tb_181 := (e_lfT t_181_0)
theorem hq_185 : (e_ml[185]?).map (·.2.1) = some prog_14_method_53_code := rfl
theorem ho_185 : (e_ml[185]?).map (·.1.cls) = some "PlateroomprinterModel" := rfl
theorem hr_185 : (e_ml[185]?).map (·.2.2.2) = some (some .int) := rfl
noncomputable def n_185_64 : e_Y := u_retI
theorem t_185_64 : e_Sn 185 64 (e_un n_185_64) := u_retIT (s_iret hq_185 hr_185 (by decide +kernel) : e_Sn 185 64 (o_ret e_okI))
noncomputable def n_185_38 : e_Y := n_185_64
theorem t_185_38 : e_Sn 185 38 (e_un n_185_38) := u_gotoT (s_goto (off := (26)) hq_185 (by decide +kernel) rfl : e_Sn 185 38 (o_goto 64)) t_185_64
noncomputable def n_185_37 : e_Y := u_push (.inl 2147483648) n_185_38
theorem t_185_37 : e_Sn 185 37 (e_un n_185_37) := u_pushT (s_iconst (n := (0)) hq_185 (by decide +kernel) rfl ⟨by decide +kernel, by decide +kernel⟩ : e_Sn 185 37 (o_push (.inl 2147483648) 38)) t_185_38
noncomputable def n_185_11 : e_Y := u_if y_ne0 (u_old2 (o_ifeq 14 37) 14 (u_at 14) n_185_37) (u_at 14) n_185_37
theorem t_185_11 : e_Sn 185 11 (e_un n_185_11) := u_ifeqT rfl (s_ifne (off := (26)) hq_185 (by decide +kernel) rfl rfl : e_Sn 185 11 (o_ifeq 14 37)) u_atT t_185_37
noncomputable def n_185_8 : e_Y := u_callV 12 195 3 22 3 n_195_0 n_185_11
theorem t_185_8 : e_Sn 185 8 (e_un n_185_8) := u_callVT rfl (s_callV (ci := 12) (C := er_12) (T := et_12) (N := 5) (index := 148) hq_185 ho_185 hy_195 hp_195 hc_195 hi_195 hd_195 (List.mem_of_getElem? (i := 1992) (by decide +kernel)) hs_195 (List.mem_of_getElem? (i := 73) (by decide +kernel)) rfl (by decide +kernel) rfl : e_Sn 185 8 (o_callV (e_s1 12 195 3) 3 11)) t_195_0 t_185_11
noncomputable def n_185_7 : e_Y := u_push (.inl 2147483649) n_185_8
theorem t_185_7 : e_Sn 185 7 (e_un n_185_7) := u_pushT (s_iconst (n := (1)) hq_185 (by decide +kernel) rfl ⟨by decide +kernel, by decide +kernel⟩ : e_Sn 185 7 (o_push (.inl 2147483649) 8)) t_185_8
noncomputable def n_185_4 : e_Y := u_callV 12 165 3 22 3 n_165_0 n_185_7
theorem t_185_4 : e_Sn 185 4 (e_un n_185_4) := u_callVT rfl (s_callV (ci := 12) (C := er_12) (T := et_12) (N := 5) (index := 275) hq_185 ho_185 hy_165 hp_165 hc_165 hi_165 hd_165 (List.mem_of_getElem? (i := 2989) (by decide +kernel)) hs_165 (List.mem_of_getElem? (i := 129) (by decide +kernel)) rfl (by decide +kernel) rfl : e_Sn 185 4 (o_callV (e_s1 12 165 3) 3 7)) t_165_0 t_185_7
noncomputable def n_185_3 : e_Y := u_ld f_okI f_l2 n_185_4
theorem t_185_3 : e_Sn 185 3 (e_un n_185_3) := u_ldIT f_l2_eq (s_iload (i := .iload_n 2) (len := 1) hq_185 (by decide +kernel) rfl (.inr ⟨2, rfl, rfl, rfl⟩) : e_Sn 185 3 (o_load e_okI 2 4)) t_185_4
noncomputable def n_185_2 : e_Y := u_ld f_okI f_l1 n_185_3
theorem t_185_2 : e_Sn 185 2 (e_un n_185_2) := u_ldIT f_l1_eq (s_iload (i := .iload_n 1) (len := 1) hq_185 (by decide +kernel) rfl (.inr ⟨1, rfl, rfl, rfl⟩) : e_Sn 185 2 (o_load e_okI 1 3)) t_185_3
noncomputable def n_185_1 : e_Y := u_ld f_okA f_l0 n_185_2
theorem t_185_1 : e_Sn 185 1 (e_un n_185_1) := u_ldAT f_l0_eq (s_aload (i := .aload_n 0) (len := 1) hq_185 (by decide +kernel) rfl (.inr ⟨0, rfl, rfl, rfl⟩) : e_Sn 185 1 (o_load e_okR 0 2)) t_185_2
noncomputable def n_185_0 : e_Y := u_ld f_okA f_l0 n_185_1
theorem t_185_0 : e_Sn 185 0 (e_un n_185_0) := u_ldAT f_l0_eq (s_aload (i := .aload_n 0) (len := 1) hq_185 (by decide +kernel) rfl (.inr ⟨0, rfl, rfl, rfl⟩) : e_Sn 185 0 (o_load e_okR 0 1)) t_185_1
noncomputable def e_tb_185 : e_X := (e_lf 0 (e_un n_185_0))
theorem e_tk_185 : e_Tb 185 e_tb_185 := (e_lfT t_185_0)
theorem hq_188 : (e_ml[188]?).map (·.2.1) = some prog_14_method_51_code := rfl
theorem ho_188 : (e_ml[188]?).map (·.1.cls) = some "PlateroomprinterModel" := rfl
theorem hr_188 : (e_ml[188]?).map (·.2.2.2) = some (some .int) := rfl
noncomputable def n_188_46 : e_Y := u_retI
theorem t_188_46 : e_Sn 188 46 (e_un n_188_46) := u_retIT (s_iret hq_188 hr_188 (by decide +kernel) : e_Sn 188 46 (o_ret e_okI))
noncomputable def n_188_37 : e_Y := n_188_46
theorem t_188_37 : e_Sn 188 37 (e_un n_188_37) := u_gotoT (s_goto (off := (9)) hq_188 (by decide +kernel) rfl : e_Sn 188 37 (o_goto 46)) t_188_46
noncomputable def n_188_36 : e_Y := u_push (.inl 2147483648) n_188_37
theorem t_188_36 : e_Sn 188 36 (e_un n_188_36) := u_pushT (s_iconst (n := (0)) hq_188 (by decide +kernel) rfl ⟨by decide +kernel, by decide +kernel⟩ : e_Sn 188 36 (o_push (.inl 2147483648) 37)) t_188_37
noncomputable def n_188_10 : e_Y := u_if y_ne0 (u_old2 (o_ifeq 13 36) 13 (u_at 13) n_188_36) (u_at 13) n_188_36
theorem t_188_10 : e_Sn 188 10 (e_un n_188_10) := u_ifeqT rfl (s_ifne (off := (26)) hq_188 (by decide +kernel) rfl rfl : e_Sn 188 10 (o_ifeq 13 36)) u_atT t_188_36
noncomputable def n_188_7 : e_Y := u_callV 12 195 3 22 3 n_195_0 n_188_10
theorem t_188_7 : e_Sn 188 7 (e_un n_188_7) := u_callVT rfl (s_callV (ci := 12) (C := er_12) (T := et_12) (N := 5) (index := 148) hq_188 ho_188 hy_195 hp_195 hc_195 hi_195 hd_195 (List.mem_of_getElem? (i := 1992) (by decide +kernel)) hs_195 (List.mem_of_getElem? (i := 73) (by decide +kernel)) rfl (by decide +kernel) rfl : e_Sn 188 7 (o_callV (e_s1 12 195 3) 3 10)) t_195_0 t_188_10
noncomputable def n_188_6 : e_Y := u_push (.inl 2147483649) n_188_7
theorem t_188_6 : e_Sn 188 6 (e_un n_188_6) := u_pushT (s_iconst (n := (1)) hq_188 (by decide +kernel) rfl ⟨by decide +kernel, by decide +kernel⟩ : e_Sn 188 6 (o_push (.inl 2147483649) 7)) t_188_7
noncomputable def n_188_3 : e_Y := u_callV 12 166 2 21 2 n_166_0 n_188_6
theorem t_188_3 : e_Sn 188 3 (e_un n_188_3) := u_callVT rfl (s_callV (ci := 12) (C := er_12) (T := et_12) (N := 5) (index := 268) hq_188 ho_188 hy_166 hp_166 hc_166 hi_166 hd_166 (List.mem_of_getElem? (i := 2973) (by decide +kernel)) hs_166 (List.mem_of_getElem? (i := 126) (by decide +kernel)) rfl (by decide +kernel) rfl : e_Sn 188 3 (o_callV (e_s1 12 166 2) 2 6)) t_166_0 t_188_6
noncomputable def n_188_2 : e_Y := u_ld f_okI f_l1 n_188_3
theorem t_188_2 : e_Sn 188 2 (e_un n_188_2) := u_ldIT f_l1_eq (s_iload (i := .iload_n 1) (len := 1) hq_188 (by decide +kernel) rfl (.inr ⟨1, rfl, rfl, rfl⟩) : e_Sn 188 2 (o_load e_okI 1 3)) t_188_3
noncomputable def n_188_1 : e_Y := u_ld f_okA f_l0 n_188_2
theorem t_188_1 : e_Sn 188 1 (e_un n_188_1) := u_ldAT f_l0_eq (s_aload (i := .aload_n 0) (len := 1) hq_188 (by decide +kernel) rfl (.inr ⟨0, rfl, rfl, rfl⟩) : e_Sn 188 1 (o_load e_okR 0 2)) t_188_2
noncomputable def n_188_0 : e_Y := u_ld f_okA f_l0 n_188_1
theorem t_188_0 : e_Sn 188 0 (e_un n_188_0) := u_ldAT f_l0_eq (s_aload (i := .aload_n 0) (len := 1) hq_188 (by decide +kernel) rfl (.inr ⟨0, rfl, rfl, rfl⟩) : e_Sn 188 0 (o_load e_okR 0 1)) t_188_1
noncomputable def e_tb_188 : e_X := (e_lf 0 (e_un n_188_0))
theorem e_tk_188 : e_Tb 188 e_tb_188 := (e_lfT t_188_0)
theorem hq_189 : (e_ml[189]?).map (·.2.1) = some prog_14_method_72_code := rfl
theorem ho_189 : (e_ml[189]?).map (·.1.cls) = some "PlateroomprinterModel" := rfl
theorem hr_189 : (e_ml[189]?).map (·.2.2.2) = some (some .int) := rfl
noncomputable def n_189_42 : e_Y := u_retI
theorem t_189_42 : e_Sn 189 42 (e_un n_189_42) := u_retIT (s_iret hq_189 hr_189 (by decide +kernel) : e_Sn 189 42 (o_ret e_okI))
noncomputable def n_189_39 : e_Y := u_callV 12 190 5 24 3 n_190_0 n_189_42
theorem t_189_39 : e_Sn 189 39 (e_un n_189_39) := u_callVT rfl (s_callV (ci := 12) (C := er_12) (T := et_12) (N := 5) (index := 336) hq_189 ho_189 hy_190 hp_190 hc_190 hi_190 hd_190 (List.mem_of_getElem? (i := 3071) (by decide +kernel)) hs_190 (List.mem_of_getElem? (i := 133) (by decide +kernel)) rfl (by decide +kernel) rfl : e_Sn 189 39 (o_callV (e_s1 12 190 5) 3 42)) t_190_0 t_189_42
noncomputable def n_189_38 : e_Y := u_ld f_okI f_l2 n_189_39
theorem t_189_38 : e_Sn 189 38 (e_un n_189_38) := u_ldIT f_l2_eq (s_iload (i := .iload_n 2) (len := 1) hq_189 (by decide +kernel) rfl (.inr ⟨2, rfl, rfl, rfl⟩) : e_Sn 189 38 (o_load e_okI 2 39)) t_189_39
noncomputable def n_189_37 : e_Y := u_ld f_okI f_l1 n_189_38
theorem t_189_37 : e_Sn 189 37 (e_un n_189_37) := u_ldIT f_l1_eq (s_iload (i := .iload_n 1) (len := 1) hq_189 (by decide +kernel) rfl (.inr ⟨1, rfl, rfl, rfl⟩) : e_Sn 189 37 (o_load e_okI 1 38)) t_189_38
noncomputable def n_189_36 : e_Y := u_ld f_okA f_l0 n_189_37
theorem t_189_36 : e_Sn 189 36 (e_un n_189_36) := u_ldAT f_l0_eq (s_aload (i := .aload_n 0) (len := 1) hq_189 (by decide +kernel) rfl (.inr ⟨0, rfl, rfl, rfl⟩) : e_Sn 189 36 (o_load e_okR 0 37)) t_189_37
noncomputable def n_189_33 : e_Y := n_189_42
theorem t_189_33 : e_Sn 189 33 (e_un n_189_33) := u_gotoT (s_goto (off := (9)) hq_189 (by decide +kernel) rfl : e_Sn 189 33 (o_goto 42)) t_189_42
noncomputable def n_189_32 : e_Y := u_push (.inl 2147483648) n_189_33
theorem t_189_32 : e_Sn 189 32 (e_un n_189_32) := u_pushT (s_iconst (n := (0)) hq_189 (by decide +kernel) rfl ⟨by decide +kernel, by decide +kernel⟩ : e_Sn 189 32 (o_push (.inl 2147483648) 33)) t_189_33
noncomputable def n_189_29 : e_Y := u_if y_ne0 (u_old2 (o_ifeq 36 32) 36 n_189_36 n_189_32) n_189_36 n_189_32
theorem t_189_29 : e_Sn 189 29 (e_un n_189_29) := u_ifeqT rfl (s_ifeq (off := (7)) hq_189 (by decide +kernel) rfl rfl : e_Sn 189 29 (o_ifeq 36 32)) t_189_36 t_189_32
noncomputable def n_189_26 : e_Y := u_callV 12 195 3 22 3 n_195_0 n_189_29
theorem t_189_26 : e_Sn 189 26 (e_un n_189_26) := u_callVT rfl (s_callV (ci := 12) (C := er_12) (T := et_12) (N := 5) (index := 148) hq_189 ho_189 hy_195 hp_195 hc_195 hi_195 hd_195 (List.mem_of_getElem? (i := 1992) (by decide +kernel)) hs_195 (List.mem_of_getElem? (i := 73) (by decide +kernel)) rfl (by decide +kernel) rfl : e_Sn 189 26 (o_callV (e_s1 12 195 3) 3 29)) t_195_0 t_189_29
noncomputable def n_189_25 : e_Y := u_push (.inl 2147483649) n_189_26
theorem t_189_25 : e_Sn 189 25 (e_un n_189_25) := u_pushT (s_iconst (n := (1)) hq_189 (by decide +kernel) rfl ⟨by decide +kernel, by decide +kernel⟩ : e_Sn 189 25 (o_push (.inl 2147483649) 26)) t_189_26
noncomputable def n_189_24 : e_Y := u_push (.inl 2147483648) n_189_25
theorem t_189_24 : e_Sn 189 24 (e_un n_189_24) := u_pushT (s_iconst (n := (0)) hq_189 (by decide +kernel) rfl ⟨by decide +kernel, by decide +kernel⟩ : e_Sn 189 24 (o_push (.inl 2147483648) 25)) t_189_25
noncomputable def n_189_21 : e_Y := n_189_25
theorem t_189_21 : e_Sn 189 21 (e_un n_189_21) := u_gotoT (s_goto (off := (4)) hq_189 (by decide +kernel) rfl : e_Sn 189 21 (o_goto 25)) t_189_25
noncomputable def n_189_20 : e_Y := u_push (.inl 2147483649) n_189_21
theorem t_189_20 : e_Sn 189 20 (e_un n_189_20) := u_pushT (s_iconst (n := (1)) hq_189 (by decide +kernel) rfl ⟨by decide +kernel, by decide +kernel⟩ : e_Sn 189 20 (o_push (.inl 2147483649) 21)) t_189_21
noncomputable def n_189_17 : e_Y := u_if y_ne0 (u_old2 (o_ifeq 20 24) 20 n_189_20 n_189_24) n_189_20 n_189_24
theorem t_189_17 : e_Sn 189 17 (e_un n_189_17) := u_ifeqT rfl (s_ifne (off := (7)) hq_189 (by decide +kernel) rfl rfl : e_Sn 189 17 (o_ifeq 20 24)) t_189_20 t_189_24
noncomputable def n_189_14 : e_Y := u_callS 162 6 25 3 n_162_0 n_189_17
theorem t_189_14 : e_Sn 189 14 (e_un n_189_14) := u_callST rfl (s_callS (index := 136) hq_189 ho_189 hy_162 hp_162 hc_162 hi_162 hd_162 (List.mem_of_getElem? (i := 1987) (by decide +kernel)) hs_162 (by decide +kernel) rfl : e_Sn 189 14 (o_callS 162 6 3 17)) t_162_0 t_189_17
noncomputable def n_189_11 : e_Y := u_push (e_L 9223372036854775839) n_189_14
theorem t_189_11 : e_Sn 189 11 (e_un n_189_11) := u_pushT (s_ldc2 (index := 286) (v := (31)) hq_189 ho_189 (List.mem_of_getElem? (i := 3009) (by decide +kernel)) (by decide +kernel) rfl ⟨by decide +kernel, by decide +kernel⟩ : e_Sn 189 11 (o_push (e_L 9223372036854775839) 14)) t_189_14
noncomputable def n_189_10 : e_Y := u_push (e_L 9223372036854775808) n_189_11
theorem t_189_10 : e_Sn 189 10 (e_un n_189_10) := u_pushT (s_lconst (n := 0) hq_189 (by decide +kernel) rfl ⟨by decide +kernel, by decide +kernel⟩ : e_Sn 189 10 (o_push (e_L 9223372036854775808) 11)) t_189_11
noncomputable def n_189_9 : e_Y := u_old (o_i2l 10) n_189_10
theorem t_189_9 : e_Sn 189 9 (e_un n_189_9) := u_oldT (s_i2l hq_189 (by decide +kernel) rfl : e_Sn 189 9 (o_i2l 10)) t_189_10 e_congr_i2l
noncomputable def n_189_8 : e_Y := u_ld f_okI f_l2 n_189_9
theorem t_189_8 : e_Sn 189 8 (e_un n_189_8) := u_ldIT f_l2_eq (s_iload (i := .iload_n 2) (len := 1) hq_189 (by decide +kernel) rfl (.inr ⟨2, rfl, rfl, rfl⟩) : e_Sn 189 8 (o_load e_okI 2 9)) t_189_9
noncomputable def n_189_5 : e_Y := u_if y_ne0 (u_old2 (o_ifeq 8 20) 8 n_189_8 n_189_20) n_189_8 n_189_20
theorem t_189_5 : e_Sn 189 5 (e_un n_189_5) := u_ifeqT rfl (s_ifne (off := (15)) hq_189 (by decide +kernel) rfl rfl : e_Sn 189 5 (o_ifeq 8 20)) t_189_8 t_189_20
noncomputable def n_189_2 : e_Y := u_callS 164 1 20 1 n_164_0 n_189_5
theorem t_189_2 : e_Sn 189 2 (e_un n_189_2) := u_callST rfl (s_callS (index := 333) hq_189 ho_189 hy_164 hp_164 hc_164 hi_164 hd_164 (List.mem_of_getElem? (i := 3067) (by decide +kernel)) hs_164 (by decide +kernel) rfl : e_Sn 189 2 (o_callS 164 1 1 5)) t_164_0 t_189_5
noncomputable def n_189_1 : e_Y := u_ld f_okI f_l1 n_189_2
theorem t_189_1 : e_Sn 189 1 (e_un n_189_1) := u_ldIT f_l1_eq (s_iload (i := .iload_n 1) (len := 1) hq_189 (by decide +kernel) rfl (.inr ⟨1, rfl, rfl, rfl⟩) : e_Sn 189 1 (o_load e_okI 1 2)) t_189_2
noncomputable def n_189_0 : e_Y := u_ld f_okA f_l0 n_189_1
theorem t_189_0 : e_Sn 189 0 (e_un n_189_0) := u_ldAT f_l0_eq (s_aload (i := .aload_n 0) (len := 1) hq_189 (by decide +kernel) rfl (.inr ⟨0, rfl, rfl, rfl⟩) : e_Sn 189 0 (o_load e_okR 0 1)) t_189_1
noncomputable def e_tb_189 : e_X := (e_lf 0 (e_un n_189_0))
theorem e_tk_189 : e_Tb 189 e_tb_189 := (e_lfT t_189_0)
theorem hq_214 : (e_ml[214]?).map (·.2.1) = some prog_21_method_2_code := rfl
theorem ho_214 : (e_ml[214]?).map (·.1.cls) = some "PlateroomprinterModel$State" := rfl
theorem hr_214 : (e_ml[214]?).map (·.2.2.2) = some (some (.object "PlateroomprinterModel$State")) := rfl
noncomputable def n_214_89 : e_Y := u_retA
theorem t_214_89 : e_Sn 214 89 (e_un n_214_89) := u_retAT (s_aret (.inl ⟨_, rfl⟩) hq_214 hr_214 (by decide +kernel) : e_Sn 214 89 (o_ret e_okR))
noncomputable def n_214_88 : e_Y := u_ld f_okA f_l1 n_214_89
theorem t_214_88 : e_Sn 214 88 (e_un n_214_88) := u_ldAT f_l1_eq (s_aload (i := .aload_n 1) (len := 1) hq_214 (by decide +kernel) rfl (.inr ⟨1, rfl, rfl, rfl⟩) : e_Sn 214 88 (o_load e_okR 1 89)) t_214_89
noncomputable def n_214_85 : e_Y := u_old (o_putf (e_f1 17 5) e_okR 88) n_214_88
theorem t_214_85 : e_Sn 214 85 (e_un n_214_85) := u_oldT (s_putf (ty0 := ey_17) (ok := e_okR) (C := er_17) (T := et_17) (N := 6) (ref := "PlateroomprinterModel$State") (index := 30) (ci := 17) (k := 5) hq_214 ho_214 ⟨rfl, by decide, ei_17, (List.mem_of_getElem? (i := 1803) (by decide +kernel)), .inl rfl⟩ eo_17 en_17 e_oksA (.inl rfl) (by decide +kernel) rfl : e_Sn 214 85 (o_putf (e_f1 17 5) e_okR 88)) t_214_88 (e_cg_putf (e_f1 17 5) e_okR)
noncomputable def n_214_82 : e_Y := u_callS 138 3 22 1 n_138_0 n_214_85
theorem t_214_82 : e_Sn 214 82 (e_un n_214_82) := u_callST rfl (s_callSN (host := "PlateroomprinterModel") (index := 44) hq_214 ho_214 hy_138 hp_138 hc_138 hi_138 hd_138 (List.mem_of_getElem? (i := 2098) (by decide +kernel)) hs_138 (by decide +kernel) rfl : e_Sn 214 82 (o_callS 138 3 1 85)) t_138_0 t_214_85
noncomputable def n_214_79 : e_Y := u_getf 17 5 (u_old (o_getf (e_f1 17 5) 82) n_214_82) n_214_82
theorem t_214_79 : e_Sn 214 79 (e_un n_214_79) := u_getfT (s_getf (C := er_17) (T := et_17) (N := 6) (ref := "PlateroomprinterModel$State") (index := 30) (ci := 17) (k := 5) hq_214 ho_214 ⟨rfl, by decide, ei_17, (List.mem_of_getElem? (i := 1803) (by decide +kernel)), .inl rfl⟩ (by decide +kernel) rfl : e_Sn 214 79 (o_getf (e_f1 17 5) 82)) t_214_82
noncomputable def n_214_78 : e_Y := u_ld f_okA f_l0 n_214_79
theorem t_214_78 : e_Sn 214 78 (e_un n_214_78) := u_ldAT f_l0_eq (s_aload (i := .aload_n 0) (len := 1) hq_214 (by decide +kernel) rfl (.inr ⟨0, rfl, rfl, rfl⟩) : e_Sn 214 78 (o_load e_okR 0 79)) t_214_79
noncomputable def n_214_77 : e_Y := u_ld f_okA f_l1 n_214_78
theorem t_214_77 : e_Sn 214 77 (e_un n_214_77) := u_ldAT f_l1_eq (s_aload (i := .aload_n 1) (len := 1) hq_214 (by decide +kernel) rfl (.inr ⟨1, rfl, rfl, rfl⟩) : e_Sn 214 77 (o_load e_okR 1 78)) t_214_78
noncomputable def n_214_74 : e_Y := u_old (o_putf (e_f1 17 4) e_okR 77) n_214_77
theorem t_214_74 : e_Sn 214 74 (e_un n_214_74) := u_oldT (s_putf (ty0 := ey_17) (ok := e_okR) (C := er_17) (T := et_17) (N := 6) (ref := "PlateroomprinterModel$State") (index := 26) (ci := 17) (k := 4) hq_214 ho_214 ⟨rfl, by decide, ei_17, (List.mem_of_getElem? (i := 1800) (by decide +kernel)), .inl rfl⟩ eo_17 en_17 e_oksA (.inl rfl) (by decide +kernel) rfl : e_Sn 214 74 (o_putf (e_f1 17 4) e_okR 77)) t_214_77 (e_cg_putf (e_f1 17 4) e_okR)
noncomputable def n_214_71 : e_Y := u_callS 138 3 22 1 n_138_0 n_214_74
theorem t_214_71 : e_Sn 214 71 (e_un n_214_71) := u_callST rfl (s_callSN (host := "PlateroomprinterModel") (index := 44) hq_214 ho_214 hy_138 hp_138 hc_138 hi_138 hd_138 (List.mem_of_getElem? (i := 2098) (by decide +kernel)) hs_138 (by decide +kernel) rfl : e_Sn 214 71 (o_callS 138 3 1 74)) t_138_0 t_214_74
noncomputable def n_214_68 : e_Y := u_getf 17 4 (u_old (o_getf (e_f1 17 4) 71) n_214_71) n_214_71
theorem t_214_68 : e_Sn 214 68 (e_un n_214_68) := u_getfT (s_getf (C := er_17) (T := et_17) (N := 6) (ref := "PlateroomprinterModel$State") (index := 26) (ci := 17) (k := 4) hq_214 ho_214 ⟨rfl, by decide, ei_17, (List.mem_of_getElem? (i := 1800) (by decide +kernel)), .inl rfl⟩ (by decide +kernel) rfl : e_Sn 214 68 (o_getf (e_f1 17 4) 71)) t_214_71
noncomputable def n_214_67 : e_Y := u_ld f_okA f_l0 n_214_68
theorem t_214_67 : e_Sn 214 67 (e_un n_214_67) := u_ldAT f_l0_eq (s_aload (i := .aload_n 0) (len := 1) hq_214 (by decide +kernel) rfl (.inr ⟨0, rfl, rfl, rfl⟩) : e_Sn 214 67 (o_load e_okR 0 68)) t_214_68
noncomputable def n_214_66 : e_Y := u_ld f_okA f_l1 n_214_67
theorem t_214_66 : e_Sn 214 66 (e_un n_214_66) := u_ldAT f_l1_eq (s_aload (i := .aload_n 1) (len := 1) hq_214 (by decide +kernel) rfl (.inr ⟨1, rfl, rfl, rfl⟩) : e_Sn 214 66 (o_load e_okR 1 67)) t_214_67
noncomputable def n_214_63 : e_Y := u_old (o_putf (e_f1 17 3) e_okR 66) n_214_66
theorem t_214_63 : e_Sn 214 63 (e_un n_214_63) := u_oldT (s_putf (ty0 := ey_17) (ok := e_okR) (C := er_17) (T := et_17) (N := 6) (ref := "PlateroomprinterModel$State") (index := 22) (ci := 17) (k := 3) hq_214 ho_214 ⟨rfl, by decide, ei_17, (List.mem_of_getElem? (i := 1797) (by decide +kernel)), .inl rfl⟩ eo_17 en_17 e_oksA (.inl rfl) (by decide +kernel) rfl : e_Sn 214 63 (o_putf (e_f1 17 3) e_okR 66)) t_214_66 (e_cg_putf (e_f1 17 3) e_okR)
noncomputable def n_214_60 : e_Y := u_callS 139 3 22 1 n_139_0 n_214_63
theorem t_214_60 : e_Sn 214 60 (e_un n_214_60) := u_callST rfl (s_callSN (host := "PlateroomprinterModel") (index := 41) hq_214 ho_214 hy_139 hp_139 hc_139 hi_139 hd_139 (List.mem_of_getElem? (i := 2095) (by decide +kernel)) hs_139 (by decide +kernel) rfl : e_Sn 214 60 (o_callS 139 3 1 63)) t_139_0 t_214_63
noncomputable def n_214_57 : e_Y := u_getf 17 3 (u_old (o_getf (e_f1 17 3) 60) n_214_60) n_214_60
theorem t_214_57 : e_Sn 214 57 (e_un n_214_57) := u_getfT (s_getf (C := er_17) (T := et_17) (N := 6) (ref := "PlateroomprinterModel$State") (index := 22) (ci := 17) (k := 3) hq_214 ho_214 ⟨rfl, by decide, ei_17, (List.mem_of_getElem? (i := 1797) (by decide +kernel)), .inl rfl⟩ (by decide +kernel) rfl : e_Sn 214 57 (o_getf (e_f1 17 3) 60)) t_214_60
noncomputable def n_214_56 : e_Y := u_ld f_okA f_l0 n_214_57
theorem t_214_56 : e_Sn 214 56 (e_un n_214_56) := u_ldAT f_l0_eq (s_aload (i := .aload_n 0) (len := 1) hq_214 (by decide +kernel) rfl (.inr ⟨0, rfl, rfl, rfl⟩) : e_Sn 214 56 (o_load e_okR 0 57)) t_214_57
noncomputable def n_214_55 : e_Y := u_ld f_okA f_l1 n_214_56
theorem t_214_55 : e_Sn 214 55 (e_un n_214_55) := u_ldAT f_l1_eq (s_aload (i := .aload_n 1) (len := 1) hq_214 (by decide +kernel) rfl (.inr ⟨1, rfl, rfl, rfl⟩) : e_Sn 214 55 (o_load e_okR 1 56)) t_214_56
noncomputable def n_214_52 : e_Y := u_old (o_putf (e_f1 17 2) e_okR 55) n_214_55
theorem t_214_52 : e_Sn 214 52 (e_un n_214_52) := u_oldT (s_putf (ty0 := ey_17) (ok := e_okR) (C := er_17) (T := et_17) (N := 6) (ref := "PlateroomprinterModel$State") (index := 38) (ci := 17) (k := 2) hq_214 ho_214 ⟨rfl, by decide, ei_17, (List.mem_of_getElem? (i := 1794) (by decide +kernel)), .inl rfl⟩ eo_17 en_17 e_oksA (.inl rfl) (by decide +kernel) rfl : e_Sn 214 52 (o_putf (e_f1 17 2) e_okR 55)) t_214_55 (e_cg_putf (e_f1 17 2) e_okR)
noncomputable def n_214_49 : e_Y := u_getf 17 2 (u_old (o_getf (e_f1 17 2) 52) n_214_52) n_214_52
theorem t_214_49 : e_Sn 214 49 (e_un n_214_49) := u_getfT (s_getf (C := er_17) (T := et_17) (N := 6) (ref := "PlateroomprinterModel$State") (index := 38) (ci := 17) (k := 2) hq_214 ho_214 ⟨rfl, by decide, ei_17, (List.mem_of_getElem? (i := 1794) (by decide +kernel)), .inl rfl⟩ (by decide +kernel) rfl : e_Sn 214 49 (o_getf (e_f1 17 2) 52)) t_214_52
noncomputable def n_214_48 : e_Y := u_ld f_okA f_l0 n_214_49
theorem t_214_48 : e_Sn 214 48 (e_un n_214_48) := u_ldAT f_l0_eq (s_aload (i := .aload_n 0) (len := 1) hq_214 (by decide +kernel) rfl (.inr ⟨0, rfl, rfl, rfl⟩) : e_Sn 214 48 (o_load e_okR 0 49)) t_214_49
noncomputable def n_214_47 : e_Y := u_ld f_okA f_l1 n_214_48
theorem t_214_47 : e_Sn 214 47 (e_un n_214_47) := u_ldAT f_l1_eq (s_aload (i := .aload_n 1) (len := 1) hq_214 (by decide +kernel) rfl (.inr ⟨1, rfl, rfl, rfl⟩) : e_Sn 214 47 (o_load e_okR 1 48)) t_214_48
noncomputable def n_214_44 : e_Y := u_old (o_putf (e_f1 17 1) e_okR 47) n_214_47
theorem t_214_44 : e_Sn 214 44 (e_un n_214_44) := u_oldT (s_putf (ty0 := ey_17) (ok := e_okR) (C := er_17) (T := et_17) (N := 6) (ref := "PlateroomprinterModel$State") (index := 18) (ci := 17) (k := 1) hq_214 ho_214 ⟨rfl, by decide, ei_17, (List.mem_of_getElem? (i := 1791) (by decide +kernel)), .inl rfl⟩ eo_17 en_17 e_oksR (.inl rfl) (by decide +kernel) rfl : e_Sn 214 44 (o_putf (e_f1 17 1) e_okR 47)) t_214_47 (e_cg_putf (e_f1 17 1) e_okR)
noncomputable def n_214_41 : e_Y := u_callS 137 5 24 3 n_137_0 n_214_44
theorem t_214_41 : e_Sn 214 41 (e_un n_214_41) := u_callST rfl (s_callSN (host := "PlateroomprinterModel") (index := 34) hq_214 ho_214 hy_137 hp_137 hc_137 hi_137 hd_137 (List.mem_of_getElem? (i := 2063) (by decide +kernel)) hs_137 (by decide +kernel) rfl : e_Sn 214 41 (o_callS 137 5 3 44)) t_137_0 t_214_44
noncomputable def n_214_40 : e_Y := u_push (.inl 2147483648) n_214_41
theorem t_214_40 : e_Sn 214 40 (e_un n_214_40) := u_pushT (s_iconst (n := (0)) hq_214 (by decide +kernel) rfl ⟨by decide +kernel, by decide +kernel⟩ : e_Sn 214 40 (o_push (.inl 2147483648) 41)) t_214_41
noncomputable def n_214_39 : e_Y := u_push (.inl 2147483648) n_214_40
theorem t_214_39 : e_Sn 214 39 (e_un n_214_39) := u_pushT (s_iconst (n := (0)) hq_214 (by decide +kernel) rfl ⟨by decide +kernel, by decide +kernel⟩ : e_Sn 214 39 (o_push (.inl 2147483648) 40)) t_214_40
noncomputable def n_214_36 : e_Y := u_getf 17 1 (u_old (o_getf (e_f1 17 1) 39) n_214_39) n_214_39
theorem t_214_36 : e_Sn 214 36 (e_un n_214_36) := u_getfT (s_getf (C := er_17) (T := et_17) (N := 6) (ref := "PlateroomprinterModel$State") (index := 18) (ci := 17) (k := 1) hq_214 ho_214 ⟨rfl, by decide, ei_17, (List.mem_of_getElem? (i := 1791) (by decide +kernel)), .inl rfl⟩ (by decide +kernel) rfl : e_Sn 214 36 (o_getf (e_f1 17 1) 39)) t_214_39
noncomputable def n_214_35 : e_Y := u_ld f_okA f_l0 n_214_36
theorem t_214_35 : e_Sn 214 35 (e_un n_214_35) := u_ldAT f_l0_eq (s_aload (i := .aload_n 0) (len := 1) hq_214 (by decide +kernel) rfl (.inr ⟨0, rfl, rfl, rfl⟩) : e_Sn 214 35 (o_load e_okR 0 36)) t_214_36
noncomputable def n_214_34 : e_Y := u_ld f_okA f_l1 n_214_35
theorem t_214_34 : e_Sn 214 34 (e_un n_214_34) := u_ldAT f_l1_eq (s_aload (i := .aload_n 1) (len := 1) hq_214 (by decide +kernel) rfl (.inr ⟨1, rfl, rfl, rfl⟩) : e_Sn 214 34 (o_load e_okR 1 35)) t_214_35
noncomputable def n_214_31 : e_Y := (u_at 10)
theorem t_214_31 : e_Sn 214 31 (e_un n_214_31) := u_gotoT (s_goto (off := (-21)) hq_214 (by decide +kernel) rfl : e_Sn 214 31 (o_goto 10)) u_atT
noncomputable def n_214_28 : e_Y := u_inc f_l2 f_s2 1 n_214_31
theorem t_214_28 : e_Sn 214 28 (e_un n_214_28) := u_incT f_l2_eq (fun _ _ _ => f_s2_eq) (s_iinc (zz := (1)) hq_214 (by decide +kernel) rfl (by decide +kernel) ⟨by decide, by decide⟩ : e_Sn 214 28 (o_iinc 2 1 31)) t_214_31
noncomputable def n_214_27 : e_Y := u_old (o_ast 2 e_okL 28) n_214_28
theorem t_214_27 : e_Sn 214 27 (e_un n_214_27) := u_oldT (s_last hq_214 (by decide +kernel) rfl : e_Sn 214 27 (o_ast 2 e_okL 28)) t_214_28 (e_cg_ast 2 e_okL)
noncomputable def n_214_26 : e_Y := u_ald 2 (u_old (o_aldO 2 27) n_214_27) n_214_27
theorem t_214_26 : e_Sn 214 26 (e_un n_214_26) := u_aldOT (s_lald hq_214 (by decide +kernel) rfl : e_Sn 214 26 (o_aldO 2 27)) t_214_27
noncomputable def n_214_25 : e_Y := u_ld f_okI f_l2 n_214_26
theorem t_214_25 : e_Sn 214 25 (e_un n_214_25) := u_ldIT f_l2_eq (s_iload (i := .iload_n 2) (len := 1) hq_214 (by decide +kernel) rfl (.inr ⟨2, rfl, rfl, rfl⟩) : e_Sn 214 25 (o_load e_okI 2 26)) t_214_26
noncomputable def n_214_22 : e_Y := u_getf 17 0 (u_old (o_getf (e_f1 17 0) 25) n_214_25) n_214_25
theorem t_214_22 : e_Sn 214 22 (e_un n_214_22) := u_getfT (s_getf (C := er_17) (T := et_17) (N := 6) (ref := "PlateroomprinterModel$State") (index := 9) (ci := 17) (k := 0) hq_214 ho_214 ⟨rfl, by decide, ei_17, (List.mem_of_getElem? (i := 1789) (by decide +kernel)), .inl rfl⟩ (by decide +kernel) rfl : e_Sn 214 22 (o_getf (e_f1 17 0) 25)) t_214_25
noncomputable def n_214_21 : e_Y := u_ld f_okA f_l0 n_214_22
theorem t_214_21 : e_Sn 214 21 (e_un n_214_21) := u_ldAT f_l0_eq (s_aload (i := .aload_n 0) (len := 1) hq_214 (by decide +kernel) rfl (.inr ⟨0, rfl, rfl, rfl⟩) : e_Sn 214 21 (o_load e_okR 0 22)) t_214_22
noncomputable def n_214_20 : e_Y := u_ld f_okI f_l2 n_214_21
theorem t_214_20 : e_Sn 214 20 (e_un n_214_20) := u_ldIT f_l2_eq (s_iload (i := .iload_n 2) (len := 1) hq_214 (by decide +kernel) rfl (.inr ⟨2, rfl, rfl, rfl⟩) : e_Sn 214 20 (o_load e_okI 2 21)) t_214_21
noncomputable def n_214_17 : e_Y := u_getf 17 0 (u_old (o_getf (e_f1 17 0) 20) n_214_20) n_214_20
theorem t_214_17 : e_Sn 214 17 (e_un n_214_17) := u_getfT (s_getf (C := er_17) (T := et_17) (N := 6) (ref := "PlateroomprinterModel$State") (index := 9) (ci := 17) (k := 0) hq_214 ho_214 ⟨rfl, by decide, ei_17, (List.mem_of_getElem? (i := 1789) (by decide +kernel)), .inl rfl⟩ (by decide +kernel) rfl : e_Sn 214 17 (o_getf (e_f1 17 0) 20)) t_214_20
noncomputable def n_214_16 : e_Y := u_ld f_okA f_l1 n_214_17
theorem t_214_16 : e_Sn 214 16 (e_un n_214_16) := u_ldAT f_l1_eq (s_aload (i := .aload_n 1) (len := 1) hq_214 (by decide +kernel) rfl (.inr ⟨1, rfl, rfl, rfl⟩) : e_Sn 214 16 (o_load e_okR 1 17)) t_214_17
noncomputable def n_214_13 : e_Y := u_jmp y_ge (u_old2 (o_clt 16 34) 16 n_214_16 n_214_34) n_214_16 n_214_34
theorem t_214_13 : e_Sn 214 13 (e_un n_214_13) := u_cltT rfl (s_cge (off := (21)) hq_214 (by decide +kernel) rfl rfl : e_Sn 214 13 (o_clt 16 34)) t_214_16 t_214_34
noncomputable def n_214_11 : e_Y := u_push (.inl 2147483660) n_214_13
theorem t_214_11 : e_Sn 214 11 (e_un n_214_11) := u_pushT (s_bipush (n := (12)) hq_214 (by decide +kernel) rfl ⟨by decide +kernel, by decide +kernel⟩ : e_Sn 214 11 (o_push (.inl 2147483660) 13)) t_214_13
noncomputable def n_214_10 : e_Y := u_ld f_okI f_l2 n_214_11
theorem t_214_10 : e_Sn 214 10 (e_un n_214_10) := u_ldIT f_l2_eq (s_iload (i := .iload_n 2) (len := 1) hq_214 (by decide +kernel) rfl (.inr ⟨2, rfl, rfl, rfl⟩) : e_Sn 214 10 (o_load e_okI 2 11)) t_214_11
noncomputable def n_214_9 : e_Y := u_st f_okI f_s2 n_214_10
theorem t_214_9 : e_Sn 214 9 (e_un n_214_9) := u_stIT (fun _ _ _ => f_s2_eq) (s_istore (i := .istore_n 2) (len := 1) hq_214 (by decide +kernel) rfl (.inr ⟨2, rfl, rfl, rfl⟩) : e_Sn 214 9 (o_store e_okI 2 10)) t_214_10
noncomputable def n_214_8 : e_Y := u_push (.inl 2147483648) n_214_9
theorem t_214_8 : e_Sn 214 8 (e_un n_214_8) := u_pushT (s_iconst (n := (0)) hq_214 (by decide +kernel) rfl ⟨by decide +kernel, by decide +kernel⟩ : e_Sn 214 8 (o_push (.inl 2147483648) 9)) t_214_9
noncomputable def n_214_7 : e_Y := u_st f_okA f_s1 n_214_8
theorem t_214_7 : e_Sn 214 7 (e_un n_214_7) := u_stAT (fun _ _ _ => f_s1_eq) (s_astore (i := .astore_n 1) (len := 1) hq_214 (by decide +kernel) rfl (.inr ⟨1, rfl, rfl, rfl⟩) : e_Sn 214 7 (o_store e_okR 1 8)) t_214_8
noncomputable def n_214_4 : e_Y := u_tab (o_callI 213 2 1 7)
theorem t_214_4 : e_Sn 214 4 (e_un n_214_4) := u_tabT (s_callI (index := 33) hq_214 ho_214 hy_213 hp_213 hc_213 hi_213 hd_213 (List.mem_of_getElem? (i := 2062) (by decide +kernel)) rfl rfl hs_213 (by decide +kernel) rfl : e_Sn 214 4 (o_callI 213 2 1 7))
noncomputable def n_214_3 : e_Y := u_old (o_dup 4) n_214_4
theorem t_214_3 : e_Sn 214 3 (e_un n_214_3) := u_oldT (s_dup hq_214 (by decide +kernel) rfl : e_Sn 214 3 (o_dup 4)) t_214_4 e_cg_dup
noncomputable def n_214_0 : e_Y := u_tab (o_new 17 6 ef_17 3)
theorem t_214_0 : e_Sn 214 0 (e_un n_214_0) := u_tabT (s_new (index := 10) (ci := 17) (N := 6) (C := er_17) (T := et_17) (ty0 := ey_17) (fv := eg_17) hq_214 ho_214 rfl ei_17 eo_17 (List.mem_of_getElem? (i := 2061) (by decide +kernel)) (List.mem_of_getElem? (i := 1782) (by decide +kernel)) (List.mem_of_getElem? (i := 156) (by decide +kernel)) eh_17 rfl (e_newrel ek_17) (by decide +kernel) rfl : e_Sn 214 0 (o_new 17 6 ef_17 3))
noncomputable def e_tb_214 : e_X := (e_br 7 (e_br 3 (e_lf 0 (e_un n_214_0)) (e_lf 3 (e_un n_214_3))) (e_br 10 (e_lf 7 (e_un n_214_7)) (e_lf 10 (e_un n_214_10))))
theorem e_tk_214 : e_Tb 214 e_tb_214 := (e_brT (e_brT (e_lfT t_214_0) (e_lfT t_214_3)) (e_brT (e_lfT t_214_7) (e_lfT t_214_10)))
theorem hq_235 : (e_ml[235]?).map (·.2.1) = some prog_50_method_23_code := rfl
theorem ho_235 : (e_ml[235]?).map (·.1.cls) = some "java/util/ArrayList" := rfl
theorem hr_235 : (e_ml[235]?).map (·.2.2.2) = some (some (.object "java/lang/Object")) := rfl
noncomputable def n_235_23 : e_Y := u_retA
theorem t_235_23 : e_Sn 235 23 (e_un n_235_23) := u_retAT (s_aret (.inl ⟨_, rfl⟩) hq_235 hr_235 (by decide +kernel) : e_Sn 235 23 (o_ret e_okR))
noncomputable def n_235_22 : e_Y := u_ld f_okA f_l3 n_235_23
theorem t_235_22 : e_Sn 235 22 (e_un n_235_22) := u_ldAT f_l3_eq (s_aload (i := .aload_n 3) (len := 1) hq_235 (by decide +kernel) rfl (.inr ⟨3, rfl, rfl, rfl⟩) : e_Sn 235 22 (o_load e_okR 3 23)) t_235_23
noncomputable def n_235_21 : e_Y := u_old (o_astR 3 (fun _ => false) 22) n_235_22
theorem t_235_21 : e_Sn 235 21 (e_un n_235_21) := u_oldT (s_aast (tc := 0) (E := "java/lang/Object") hq_235 rfl (by decide) (fun k hk => by cases hk) (by decide +kernel) rfl : e_Sn 235 21 (o_astR 3 (fun _ => false) 22)) t_235_22 (e_cg_astR 3 (fun _ => false))
noncomputable def n_235_20 : e_Y := u_ld f_okA f_l2 n_235_21
theorem t_235_20 : e_Sn 235 20 (e_un n_235_20) := u_ldAT f_l2_eq (s_aload (i := .aload_n 2) (len := 1) hq_235 (by decide +kernel) rfl (.inr ⟨2, rfl, rfl, rfl⟩) : e_Sn 235 20 (o_load e_okR 2 21)) t_235_21
noncomputable def n_235_19 : e_Y := u_ld f_okI f_l1 n_235_20
theorem t_235_19 : e_Sn 235 19 (e_un n_235_19) := u_ldIT f_l1_eq (s_iload (i := .iload_n 1) (len := 1) hq_235 (by decide +kernel) rfl (.inr ⟨1, rfl, rfl, rfl⟩) : e_Sn 235 19 (o_load e_okI 1 20)) t_235_20
noncomputable def n_235_16 : e_Y := u_getf 19 0 (u_old (o_getf (e_f1 19 0) 19) n_235_19) n_235_19
theorem t_235_16 : e_Sn 235 16 (e_un n_235_16) := u_getfT (s_getf (C := er_19) (T := et_19) (N := 3) (ref := "java/util/ArrayList") (index := 9) (ci := 19) (k := 0) hq_235 ho_235 ⟨rfl, by decide, ei_19, (List.mem_of_getElem? (i := 1764) (by decide +kernel)), .inl rfl⟩ (by decide +kernel) rfl : e_Sn 235 16 (o_getf (e_f1 19 0) 19)) t_235_19
noncomputable def n_235_15 : e_Y := u_ld f_okA f_l0 n_235_16
theorem t_235_15 : e_Sn 235 15 (e_un n_235_15) := u_ldAT f_l0_eq (s_aload (i := .aload_n 0) (len := 1) hq_235 (by decide +kernel) rfl (.inr ⟨0, rfl, rfl, rfl⟩) : e_Sn 235 15 (o_load e_okR 0 16)) t_235_16
noncomputable def n_235_14 : e_Y := u_st f_okA f_s3 n_235_15
theorem t_235_14 : e_Sn 235 14 (e_un n_235_14) := u_stAT (fun _ _ _ => f_s3_eq) (s_astore (i := .astore_n 3) (len := 1) hq_235 (by decide +kernel) rfl (.inr ⟨3, rfl, rfl, rfl⟩) : e_Sn 235 14 (o_store e_okR 3 15)) t_235_15
noncomputable def n_235_11 : e_Y := u_callV 19 227 2 21 2 n_227_0 n_235_14
theorem t_235_11 : e_Sn 235 11 (e_un n_235_11) := u_callVT rfl (s_callV (ci := 19) (C := er_19) (T := et_19) (N := 3) (index := 123) hq_235 ho_235 hy_227 hp_227 hc_227 hi_227 hd_227 (List.mem_of_getElem? (i := 2053) (by decide +kernel)) hs_227 (List.mem_of_getElem? (i := 2055) (by decide +kernel)) rfl (by decide +kernel) rfl : e_Sn 235 11 (o_callV (e_s1 19 227 2) 2 14)) t_227_0 t_235_14
noncomputable def n_235_10 : e_Y := u_ld f_okI f_l1 n_235_11
theorem t_235_10 : e_Sn 235 10 (e_un n_235_10) := u_ldIT f_l1_eq (s_iload (i := .iload_n 1) (len := 1) hq_235 (by decide +kernel) rfl (.inr ⟨1, rfl, rfl, rfl⟩) : e_Sn 235 10 (o_load e_okI 1 11)) t_235_11
noncomputable def n_235_9 : e_Y := u_ld f_okA f_l0 n_235_10
theorem t_235_9 : e_Sn 235 9 (e_un n_235_9) := u_ldAT f_l0_eq (s_aload (i := .aload_n 0) (len := 1) hq_235 (by decide +kernel) rfl (.inr ⟨0, rfl, rfl, rfl⟩) : e_Sn 235 9 (o_load e_okR 0 10)) t_235_10
noncomputable def n_235_8 : e_Y := u_pop n_235_9
theorem t_235_8 : e_Sn 235 8 (e_un n_235_8) := u_popT (s_pop hq_235 (by decide +kernel) rfl : e_Sn 235 8 (o_pop 9)) t_235_9
noncomputable def n_235_5 : e_Y := u_callS 241 2 21 2 n_241_0 n_235_8
theorem t_235_5 : e_Sn 235 5 (e_un n_235_5) := u_callST rfl (s_callS (index := 118) hq_235 ho_235 hy_241 hp_241 hc_241 hi_241 hd_241 (List.mem_of_getElem? (i := 2021) (by decide +kernel)) hs_241 (by decide +kernel) rfl : e_Sn 235 5 (o_callS 241 2 2 8)) t_241_0 t_235_8
noncomputable def n_235_2 : e_Y := u_getf 19 1 (u_old (o_getf (e_f1 19 1) 5) n_235_5) n_235_5
theorem t_235_2 : e_Sn 235 2 (e_un n_235_2) := u_getfT (s_getf (C := er_19) (T := et_19) (N := 3) (ref := "java/util/ArrayList") (index := 48) (ci := 19) (k := 1) hq_235 ho_235 ⟨rfl, by decide, ei_19, (List.mem_of_getElem? (i := 1767) (by decide +kernel)), .inl rfl⟩ (by decide +kernel) rfl : e_Sn 235 2 (o_getf (e_f1 19 1) 5)) t_235_5
noncomputable def n_235_1 : e_Y := u_ld f_okA f_l0 n_235_2
theorem t_235_1 : e_Sn 235 1 (e_un n_235_1) := u_ldAT f_l0_eq (s_aload (i := .aload_n 0) (len := 1) hq_235 (by decide +kernel) rfl (.inr ⟨0, rfl, rfl, rfl⟩) : e_Sn 235 1 (o_load e_okR 0 2)) t_235_2
noncomputable def n_235_0 : e_Y := u_ld f_okI f_l1 n_235_1
theorem t_235_0 : e_Sn 235 0 (e_un n_235_0) := u_ldIT f_l1_eq (s_iload (i := .iload_n 1) (len := 1) hq_235 (by decide +kernel) rfl (.inr ⟨1, rfl, rfl, rfl⟩) : e_Sn 235 0 (o_load e_okI 1 1)) t_235_1
noncomputable def e_tb_235 : e_X := (e_lf 0 (e_un n_235_0))
theorem e_tk_235 : e_Tb 235 e_tb_235 := (e_lfT t_235_0)
theorem hq_205 : (e_ml[205]?).map (·.2.1) = some prog_17_method_2_code := rfl
theorem ho_205 : (e_ml[205]?).map (·.1.cls) = some "PlateroomprinterModel$Machine" := rfl
theorem hr_205 : (e_ml[205]?).map (·.2.2.2) = some (some (.object "PlateroomprinterModel$Machine")) := rfl
noncomputable def n_205_258 : e_Y := u_retA
theorem t_205_258 : e_Sn 205 258 (e_un n_205_258) := u_retAT (s_aret (.inl ⟨_, rfl⟩) hq_205 hr_205 (by decide +kernel) : e_Sn 205 258 (o_ret e_okR))
noncomputable def n_205_257 : e_Y := u_ld f_okA f_l1 n_205_258
theorem t_205_257 : e_Sn 205 257 (e_un n_205_257) := u_ldAT f_l1_eq (s_aload (i := .aload_n 1) (len := 1) hq_205 (by decide +kernel) rfl (.inr ⟨1, rfl, rfl, rfl⟩) : e_Sn 205 257 (o_load e_okR 1 258)) t_205_258
noncomputable def n_205_254 : e_Y := u_old (o_putf (e_f1 13 12) e_okR 257) n_205_257
theorem t_205_254 : e_Sn 205 254 (e_un n_205_254) := u_oldT (s_putf (ty0 := ey_13) (ok := e_okR) (C := er_13) (T := et_13) (N := 13) (ref := "PlateroomprinterModel$Machine") (index := 44) (ci := 13) (k := 12) hq_205 ho_205 ⟨rfl, by decide, ei_13, (List.mem_of_getElem? (i := 1926) (by decide +kernel)), .inl rfl⟩ eo_13 en_13 e_oksA (.inl rfl) (by decide +kernel) rfl : e_Sn 205 254 (o_putf (e_f1 13 12) e_okR 257)) t_205_257 (e_cg_putf (e_f1 13 12) e_okR)
noncomputable def n_205_251 : e_Y := u_callS 138 3 22 1 n_138_0 n_205_254
theorem t_205_251 : e_Sn 205 251 (e_un n_205_251) := u_callST rfl (s_callSN (host := "PlateroomprinterModel") (index := 91) hq_205 ho_205 hy_138 hp_138 hc_138 hi_138 hd_138 (List.mem_of_getElem? (i := 2107) (by decide +kernel)) hs_138 (by decide +kernel) rfl : e_Sn 205 251 (o_callS 138 3 1 254)) t_138_0 t_205_254
noncomputable def n_205_248 : e_Y := u_getf 13 12 (u_old (o_getf (e_f1 13 12) 251) n_205_251) n_205_251
theorem t_205_248 : e_Sn 205 248 (e_un n_205_248) := u_getfT (s_getf (C := er_13) (T := et_13) (N := 13) (ref := "PlateroomprinterModel$Machine") (index := 44) (ci := 13) (k := 12) hq_205 ho_205 ⟨rfl, by decide, ei_13, (List.mem_of_getElem? (i := 1926) (by decide +kernel)), .inl rfl⟩ (by decide +kernel) rfl : e_Sn 205 248 (o_getf (e_f1 13 12) 251)) t_205_251
noncomputable def n_205_247 : e_Y := u_ld f_okA f_l0 n_205_248
theorem t_205_247 : e_Sn 205 247 (e_un n_205_247) := u_ldAT f_l0_eq (s_aload (i := .aload_n 0) (len := 1) hq_205 (by decide +kernel) rfl (.inr ⟨0, rfl, rfl, rfl⟩) : e_Sn 205 247 (o_load e_okR 0 248)) t_205_248
noncomputable def n_205_246 : e_Y := u_ld f_okA f_l1 n_205_247
theorem t_205_246 : e_Sn 205 246 (e_un n_205_246) := u_ldAT f_l1_eq (s_aload (i := .aload_n 1) (len := 1) hq_205 (by decide +kernel) rfl (.inr ⟨1, rfl, rfl, rfl⟩) : e_Sn 205 246 (o_load e_okR 1 247)) t_205_247
noncomputable def n_205_243 : e_Y := u_old (o_putf (e_f1 13 11) e_okI 246) n_205_246
theorem t_205_243 : e_Sn 205 243 (e_un n_205_243) := u_oldT (s_putf (ty0 := ey_13) (ok := e_okI) (C := er_13) (T := et_13) (N := 13) (ref := "PlateroomprinterModel$Machine") (index := 88) (ci := 13) (k := 11) hq_205 ho_205 ⟨rfl, by decide, ei_13, (List.mem_of_getElem? (i := 1923) (by decide +kernel)), .inl rfl⟩ eo_13 en_13 e_oksI (.inl rfl) (by decide +kernel) rfl : e_Sn 205 243 (o_putf (e_f1 13 11) e_okI 246)) t_205_246 (e_cg_putf (e_f1 13 11) e_okI)
noncomputable def n_205_240 : e_Y := u_getf 13 11 (u_old (o_getf (e_f1 13 11) 243) n_205_243) n_205_243
theorem t_205_240 : e_Sn 205 240 (e_un n_205_240) := u_getfT (s_getf (C := er_13) (T := et_13) (N := 13) (ref := "PlateroomprinterModel$Machine") (index := 88) (ci := 13) (k := 11) hq_205 ho_205 ⟨rfl, by decide, ei_13, (List.mem_of_getElem? (i := 1923) (by decide +kernel)), .inl rfl⟩ (by decide +kernel) rfl : e_Sn 205 240 (o_getf (e_f1 13 11) 243)) t_205_243
noncomputable def n_205_239 : e_Y := u_ld f_okA f_l0 n_205_240
theorem t_205_239 : e_Sn 205 239 (e_un n_205_239) := u_ldAT f_l0_eq (s_aload (i := .aload_n 0) (len := 1) hq_205 (by decide +kernel) rfl (.inr ⟨0, rfl, rfl, rfl⟩) : e_Sn 205 239 (o_load e_okR 0 240)) t_205_240
noncomputable def n_205_238 : e_Y := u_ld f_okA f_l1 n_205_239
theorem t_205_238 : e_Sn 205 238 (e_un n_205_238) := u_ldAT f_l1_eq (s_aload (i := .aload_n 1) (len := 1) hq_205 (by decide +kernel) rfl (.inr ⟨1, rfl, rfl, rfl⟩) : e_Sn 205 238 (o_load e_okR 1 239)) t_205_239
noncomputable def n_205_235 : e_Y := u_old (o_putf (e_f1 13 10) e_okI 238) n_205_238
theorem t_205_235 : e_Sn 205 235 (e_un n_205_235) := u_oldT (s_putf (ty0 := ey_13) (ok := e_okI) (C := er_13) (T := et_13) (N := 13) (ref := "PlateroomprinterModel$Machine") (index := 85) (ci := 13) (k := 10) hq_205 ho_205 ⟨rfl, by decide, ei_13, (List.mem_of_getElem? (i := 1920) (by decide +kernel)), .inl rfl⟩ eo_13 en_13 e_oksI (.inl rfl) (by decide +kernel) rfl : e_Sn 205 235 (o_putf (e_f1 13 10) e_okI 238)) t_205_238 (e_cg_putf (e_f1 13 10) e_okI)
noncomputable def n_205_232 : e_Y := u_getf 13 10 (u_old (o_getf (e_f1 13 10) 235) n_205_235) n_205_235
theorem t_205_232 : e_Sn 205 232 (e_un n_205_232) := u_getfT (s_getf (C := er_13) (T := et_13) (N := 13) (ref := "PlateroomprinterModel$Machine") (index := 85) (ci := 13) (k := 10) hq_205 ho_205 ⟨rfl, by decide, ei_13, (List.mem_of_getElem? (i := 1920) (by decide +kernel)), .inl rfl⟩ (by decide +kernel) rfl : e_Sn 205 232 (o_getf (e_f1 13 10) 235)) t_205_235
noncomputable def n_205_231 : e_Y := u_ld f_okA f_l0 n_205_232
theorem t_205_231 : e_Sn 205 231 (e_un n_205_231) := u_ldAT f_l0_eq (s_aload (i := .aload_n 0) (len := 1) hq_205 (by decide +kernel) rfl (.inr ⟨0, rfl, rfl, rfl⟩) : e_Sn 205 231 (o_load e_okR 0 232)) t_205_232
noncomputable def n_205_230 : e_Y := u_ld f_okA f_l1 n_205_231
theorem t_205_230 : e_Sn 205 230 (e_un n_205_230) := u_ldAT f_l1_eq (s_aload (i := .aload_n 1) (len := 1) hq_205 (by decide +kernel) rfl (.inr ⟨1, rfl, rfl, rfl⟩) : e_Sn 205 230 (o_load e_okR 1 231)) t_205_231
noncomputable def n_205_227 : e_Y := u_old (o_putf (e_f1 13 9) e_okI 230) n_205_230
theorem t_205_227 : e_Sn 205 227 (e_un n_205_227) := u_oldT (s_putf (ty0 := ey_13) (ok := e_okI) (C := er_13) (T := et_13) (N := 13) (ref := "PlateroomprinterModel$Machine") (index := 82) (ci := 13) (k := 9) hq_205 ho_205 ⟨rfl, by decide, ei_13, (List.mem_of_getElem? (i := 1917) (by decide +kernel)), .inl rfl⟩ eo_13 en_13 e_oksI (.inl rfl) (by decide +kernel) rfl : e_Sn 205 227 (o_putf (e_f1 13 9) e_okI 230)) t_205_230 (e_cg_putf (e_f1 13 9) e_okI)
noncomputable def n_205_224 : e_Y := u_getf 13 9 (u_old (o_getf (e_f1 13 9) 227) n_205_227) n_205_227
theorem t_205_224 : e_Sn 205 224 (e_un n_205_224) := u_getfT (s_getf (C := er_13) (T := et_13) (N := 13) (ref := "PlateroomprinterModel$Machine") (index := 82) (ci := 13) (k := 9) hq_205 ho_205 ⟨rfl, by decide, ei_13, (List.mem_of_getElem? (i := 1917) (by decide +kernel)), .inl rfl⟩ (by decide +kernel) rfl : e_Sn 205 224 (o_getf (e_f1 13 9) 227)) t_205_227
noncomputable def n_205_223 : e_Y := u_ld f_okA f_l0 n_205_224
theorem t_205_223 : e_Sn 205 223 (e_un n_205_223) := u_ldAT f_l0_eq (s_aload (i := .aload_n 0) (len := 1) hq_205 (by decide +kernel) rfl (.inr ⟨0, rfl, rfl, rfl⟩) : e_Sn 205 223 (o_load e_okR 0 224)) t_205_224
noncomputable def n_205_222 : e_Y := u_ld f_okA f_l1 n_205_223
theorem t_205_222 : e_Sn 205 222 (e_un n_205_222) := u_ldAT f_l1_eq (s_aload (i := .aload_n 1) (len := 1) hq_205 (by decide +kernel) rfl (.inr ⟨1, rfl, rfl, rfl⟩) : e_Sn 205 222 (o_load e_okR 1 223)) t_205_223
noncomputable def n_205_219 : e_Y := u_old (o_putf (e_f1 13 8) e_okI 222) n_205_222
theorem t_205_219 : e_Sn 205 219 (e_un n_205_219) := u_oldT (s_putf (ty0 := ey_13) (ok := e_okI) (C := er_13) (T := et_13) (N := 13) (ref := "PlateroomprinterModel$Machine") (index := 78) (ci := 13) (k := 8) hq_205 ho_205 ⟨rfl, by decide, ei_13, (List.mem_of_getElem? (i := 1914) (by decide +kernel)), .inl rfl⟩ eo_13 en_13 e_oksI (.inl rfl) (by decide +kernel) rfl : e_Sn 205 219 (o_putf (e_f1 13 8) e_okI 222)) t_205_222 (e_cg_putf (e_f1 13 8) e_okI)
noncomputable def n_205_216 : e_Y := u_getf 13 8 (u_old (o_getf (e_f1 13 8) 219) n_205_219) n_205_219
theorem t_205_216 : e_Sn 205 216 (e_un n_205_216) := u_getfT (s_getf (C := er_13) (T := et_13) (N := 13) (ref := "PlateroomprinterModel$Machine") (index := 78) (ci := 13) (k := 8) hq_205 ho_205 ⟨rfl, by decide, ei_13, (List.mem_of_getElem? (i := 1914) (by decide +kernel)), .inl rfl⟩ (by decide +kernel) rfl : e_Sn 205 216 (o_getf (e_f1 13 8) 219)) t_205_219
noncomputable def n_205_215 : e_Y := u_ld f_okA f_l0 n_205_216
theorem t_205_215 : e_Sn 205 215 (e_un n_205_215) := u_ldAT f_l0_eq (s_aload (i := .aload_n 0) (len := 1) hq_205 (by decide +kernel) rfl (.inr ⟨0, rfl, rfl, rfl⟩) : e_Sn 205 215 (o_load e_okR 0 216)) t_205_216
noncomputable def n_205_214 : e_Y := u_ld f_okA f_l1 n_205_215
theorem t_205_214 : e_Sn 205 214 (e_un n_205_214) := u_ldAT f_l1_eq (s_aload (i := .aload_n 1) (len := 1) hq_205 (by decide +kernel) rfl (.inr ⟨1, rfl, rfl, rfl⟩) : e_Sn 205 214 (o_load e_okR 1 215)) t_205_215
noncomputable def n_205_211 : e_Y := u_old (o_putf (e_f1 13 7) e_okR 214) n_205_214
theorem t_205_211 : e_Sn 205 211 (e_un n_205_211) := u_oldT (s_putf (ty0 := ey_13) (ok := e_okR) (C := er_13) (T := et_13) (N := 13) (ref := "PlateroomprinterModel$Machine") (index := 75) (ci := 13) (k := 7) hq_205 ho_205 ⟨rfl, by decide, ei_13, (List.mem_of_getElem? (i := 1911) (by decide +kernel)), .inl rfl⟩ eo_13 en_13 e_oksA (.inl rfl) (by decide +kernel) rfl : e_Sn 205 211 (o_putf (e_f1 13 7) e_okR 214)) t_205_214 (e_cg_putf (e_f1 13 7) e_okR)
noncomputable def n_205_208 : e_Y := u_getf 13 7 (u_old (o_getf (e_f1 13 7) 211) n_205_211) n_205_211
theorem t_205_208 : e_Sn 205 208 (e_un n_205_208) := u_getfT (s_getf (C := er_13) (T := et_13) (N := 13) (ref := "PlateroomprinterModel$Machine") (index := 75) (ci := 13) (k := 7) hq_205 ho_205 ⟨rfl, by decide, ei_13, (List.mem_of_getElem? (i := 1911) (by decide +kernel)), .inl rfl⟩ (by decide +kernel) rfl : e_Sn 205 208 (o_getf (e_f1 13 7) 211)) t_205_211
noncomputable def n_205_207 : e_Y := u_ld f_okA f_l0 n_205_208
theorem t_205_207 : e_Sn 205 207 (e_un n_205_207) := u_ldAT f_l0_eq (s_aload (i := .aload_n 0) (len := 1) hq_205 (by decide +kernel) rfl (.inr ⟨0, rfl, rfl, rfl⟩) : e_Sn 205 207 (o_load e_okR 0 208)) t_205_208
noncomputable def n_205_206 : e_Y := u_ld f_okA f_l1 n_205_207
theorem t_205_206 : e_Sn 205 206 (e_un n_205_206) := u_ldAT f_l1_eq (s_aload (i := .aload_n 1) (len := 1) hq_205 (by decide +kernel) rfl (.inr ⟨1, rfl, rfl, rfl⟩) : e_Sn 205 206 (o_load e_okR 1 207)) t_205_207
noncomputable def n_205_203 : e_Y := u_old (o_putf (e_f1 13 6) e_okR 206) n_205_206
theorem t_205_203 : e_Sn 205 203 (e_un n_205_203) := u_oldT (s_putf (ty0 := ey_13) (ok := e_okR) (C := er_13) (T := et_13) (N := 13) (ref := "PlateroomprinterModel$Machine") (index := 40) (ci := 13) (k := 6) hq_205 ho_205 ⟨rfl, by decide, ei_13, (List.mem_of_getElem? (i := 1908) (by decide +kernel)), .inl rfl⟩ eo_13 en_13 e_oksA (.inl rfl) (by decide +kernel) rfl : e_Sn 205 203 (o_putf (e_f1 13 6) e_okR 206)) t_205_206 (e_cg_putf (e_f1 13 6) e_okR)
noncomputable def n_205_200 : e_Y := u_callS 139 3 22 1 n_139_0 n_205_203
theorem t_205_200 : e_Sn 205 200 (e_un n_205_200) := u_callST rfl (s_callSN (host := "PlateroomprinterModel") (index := 71) hq_205 ho_205 hy_139 hp_139 hc_139 hi_139 hd_139 (List.mem_of_getElem? (i := 2106) (by decide +kernel)) hs_139 (by decide +kernel) rfl : e_Sn 205 200 (o_callS 139 3 1 203)) t_139_0 t_205_203
noncomputable def n_205_197 : e_Y := u_getf 13 6 (u_old (o_getf (e_f1 13 6) 200) n_205_200) n_205_200
theorem t_205_197 : e_Sn 205 197 (e_un n_205_197) := u_getfT (s_getf (C := er_13) (T := et_13) (N := 13) (ref := "PlateroomprinterModel$Machine") (index := 40) (ci := 13) (k := 6) hq_205 ho_205 ⟨rfl, by decide, ei_13, (List.mem_of_getElem? (i := 1908) (by decide +kernel)), .inl rfl⟩ (by decide +kernel) rfl : e_Sn 205 197 (o_getf (e_f1 13 6) 200)) t_205_200
noncomputable def n_205_196 : e_Y := u_ld f_okA f_l0 n_205_197
theorem t_205_196 : e_Sn 205 196 (e_un n_205_196) := u_ldAT f_l0_eq (s_aload (i := .aload_n 0) (len := 1) hq_205 (by decide +kernel) rfl (.inr ⟨0, rfl, rfl, rfl⟩) : e_Sn 205 196 (o_load e_okR 0 197)) t_205_197
noncomputable def n_205_195 : e_Y := u_ld f_okA f_l1 n_205_196
theorem t_205_195 : e_Sn 205 195 (e_un n_205_195) := u_ldAT f_l1_eq (s_aload (i := .aload_n 1) (len := 1) hq_205 (by decide +kernel) rfl (.inr ⟨1, rfl, rfl, rfl⟩) : e_Sn 205 195 (o_load e_okR 1 196)) t_205_196
noncomputable def n_205_167 : e_Y := u_jmp y_ge (u_old2 (o_clt 170 195) 170 (u_at 170) n_205_195) (u_at 170) n_205_195
theorem t_205_167 : e_Sn 205 167 (e_un n_205_167) := u_cltT rfl (s_cge (off := (28)) hq_205 (by decide +kernel) rfl rfl : e_Sn 205 167 (o_clt 170 195)) u_atT t_205_195
noncomputable def n_205_164 : e_Y := u_callV 19 236 1 20 1 n_236_0 n_205_167
theorem t_205_164 : e_Sn 205 164 (e_un n_205_164) := u_callVT rfl (s_callV (ci := 19) (C := er_19) (T := et_19) (N := 3) (index := 53) hq_205 ho_205 hy_236 hp_236 hc_236 hi_236 hd_236 (List.mem_of_getElem? (i := 2048) (by decide +kernel)) hs_236 (List.mem_of_getElem? (i := 2002) (by decide +kernel)) rfl (by decide +kernel) rfl : e_Sn 205 164 (o_callV (e_s1 19 236 1) 1 167)) t_236_0 t_205_167
noncomputable def n_205_161 : e_Y := u_getf 13 5 (u_old (o_getf (e_f1 13 5) 164) n_205_164) n_205_164
theorem t_205_161 : e_Sn 205 161 (e_un n_205_161) := u_getfT (s_getf (C := er_13) (T := et_13) (N := 13) (ref := "PlateroomprinterModel$Machine") (index := 37) (ci := 13) (k := 5) hq_205 ho_205 ⟨rfl, by decide, ei_13, (List.mem_of_getElem? (i := 1905) (by decide +kernel)), .inl rfl⟩ (by decide +kernel) rfl : e_Sn 205 161 (o_getf (e_f1 13 5) 164)) t_205_164
noncomputable def n_205_160 : e_Y := u_ld f_okA f_l0 n_205_161
theorem t_205_160 : e_Sn 205 160 (e_un n_205_160) := u_ldAT f_l0_eq (s_aload (i := .aload_n 0) (len := 1) hq_205 (by decide +kernel) rfl (.inr ⟨0, rfl, rfl, rfl⟩) : e_Sn 205 160 (o_load e_okR 0 161)) t_205_161
noncomputable def n_205_159 : e_Y := u_ld f_okI f_l2 n_205_160
theorem t_205_159 : e_Sn 205 159 (e_un n_205_159) := u_ldIT f_l2_eq (s_iload (i := .iload_n 2) (len := 1) hq_205 (by decide +kernel) rfl (.inr ⟨2, rfl, rfl, rfl⟩) : e_Sn 205 159 (o_load e_okI 2 160)) t_205_160
noncomputable def n_205_158 : e_Y := u_st f_okI f_s2 n_205_159
theorem t_205_158 : e_Sn 205 158 (e_un n_205_158) := u_stIT (fun _ _ _ => f_s2_eq) (s_istore (i := .istore_n 2) (len := 1) hq_205 (by decide +kernel) rfl (.inr ⟨2, rfl, rfl, rfl⟩) : e_Sn 205 158 (o_store e_okI 2 159)) t_205_159
noncomputable def n_205_157 : e_Y := u_push (.inl 2147483648) n_205_158
theorem t_205_157 : e_Sn 205 157 (e_un n_205_157) := u_pushT (s_iconst (n := (0)) hq_205 (by decide +kernel) rfl ⟨by decide +kernel, by decide +kernel⟩ : e_Sn 205 157 (o_push (.inl 2147483648) 158)) t_205_158
noncomputable def n_205_154 : e_Y := (u_at 126)
theorem t_205_154 : e_Sn 205 154 (e_un n_205_154) := u_gotoT (s_goto (off := (-28)) hq_205 (by decide +kernel) rfl : e_Sn 205 154 (o_goto 126)) u_atT
noncomputable def n_205_151 : e_Y := u_inc f_l2 f_s2 1 n_205_154
theorem t_205_151 : e_Sn 205 151 (e_un n_205_151) := u_incT f_l2_eq (fun _ _ _ => f_s2_eq) (s_iinc (zz := (1)) hq_205 (by decide +kernel) rfl (by decide +kernel) ⟨by decide, by decide⟩ : e_Sn 205 151 (o_iinc 2 1 154)) t_205_154
noncomputable def n_205_150 : e_Y := u_pop n_205_151
theorem t_205_150 : e_Sn 205 150 (e_un n_205_150) := u_popT (s_pop hq_205 (by decide +kernel) rfl : e_Sn 205 150 (o_pop 151)) t_205_151
noncomputable def n_205_147 : e_Y := u_callV 19 235 4 23 3 n_235_0 n_205_150
theorem t_205_147 : e_Sn 205 147 (e_un n_205_147) := u_callVT rfl (s_callV (ci := 19) (C := er_19) (T := et_19) (N := 3) (index := 65) hq_205 ho_205 hy_235 hp_235 hc_235 hi_235 hd_235 (List.mem_of_getElem? (i := 2101) (by decide +kernel)) hs_235 (List.mem_of_getElem? (i := 2103) (by decide +kernel)) rfl (by decide +kernel) rfl : e_Sn 205 147 (o_callV (e_s1 19 235 4) 3 150)) t_235_0 t_205_150
noncomputable def n_205_144 : e_Y := u_old (o_cast 19 147) n_205_147
theorem t_205_144 : e_Sn 205 144 (e_un n_205_144) := u_oldT (s_cast (index := 9) hq_205 ho_205 (List.mem_of_getElem? (i := 1750) (by decide +kernel)) (.inl ⟨by decide, rfl⟩) (by decide +kernel) rfl : e_Sn 205 144 (o_cast 19 147)) t_205_147 (e_cg_cast 19)
noncomputable def n_205_141 : e_Y := u_callV 19 229 2 21 2 n_229_0 n_205_144
theorem t_205_141 : e_Sn 205 141 (e_un n_205_141) := u_callVT rfl (s_callV (ci := 19) (C := er_19) (T := et_19) (N := 3) (index := 57) hq_205 ho_205 hy_229 hp_229 hc_229 hi_229 hd_229 (List.mem_of_getElem? (i := 2049) (by decide +kernel)) hs_229 (List.mem_of_getElem? (i := 2051) (by decide +kernel)) rfl (by decide +kernel) rfl : e_Sn 205 141 (o_callV (e_s1 19 229 2) 2 144)) t_229_0 t_205_144
noncomputable def n_205_140 : e_Y := u_ld f_okI f_l2 n_205_141
theorem t_205_140 : e_Sn 205 140 (e_un n_205_140) := u_ldIT f_l2_eq (s_iload (i := .iload_n 2) (len := 1) hq_205 (by decide +kernel) rfl (.inr ⟨2, rfl, rfl, rfl⟩) : e_Sn 205 140 (o_load e_okI 2 141)) t_205_141
noncomputable def n_205_137 : e_Y := u_getf 13 4 (u_old (o_getf (e_f1 13 4) 140) n_205_140) n_205_140
theorem t_205_137 : e_Sn 205 137 (e_un n_205_137) := u_getfT (s_getf (C := er_13) (T := et_13) (N := 13) (ref := "PlateroomprinterModel$Machine") (index := 34) (ci := 13) (k := 4) hq_205 ho_205 ⟨rfl, by decide, ei_13, (List.mem_of_getElem? (i := 1902) (by decide +kernel)), .inl rfl⟩ (by decide +kernel) rfl : e_Sn 205 137 (o_getf (e_f1 13 4) 140)) t_205_140
noncomputable def n_205_136 : e_Y := u_ld f_okA f_l0 n_205_137
theorem t_205_136 : e_Sn 205 136 (e_un n_205_136) := u_ldAT f_l0_eq (s_aload (i := .aload_n 0) (len := 1) hq_205 (by decide +kernel) rfl (.inr ⟨0, rfl, rfl, rfl⟩) : e_Sn 205 136 (o_load e_okR 0 137)) t_205_137
noncomputable def n_205_135 : e_Y := u_ld f_okI f_l2 n_205_136
theorem t_205_135 : e_Sn 205 135 (e_un n_205_135) := u_ldIT f_l2_eq (s_iload (i := .iload_n 2) (len := 1) hq_205 (by decide +kernel) rfl (.inr ⟨2, rfl, rfl, rfl⟩) : e_Sn 205 135 (o_load e_okI 2 136)) t_205_136
noncomputable def n_205_132 : e_Y := u_getf 13 4 (u_old (o_getf (e_f1 13 4) 135) n_205_135) n_205_135
theorem t_205_132 : e_Sn 205 132 (e_un n_205_132) := u_getfT (s_getf (C := er_13) (T := et_13) (N := 13) (ref := "PlateroomprinterModel$Machine") (index := 34) (ci := 13) (k := 4) hq_205 ho_205 ⟨rfl, by decide, ei_13, (List.mem_of_getElem? (i := 1902) (by decide +kernel)), .inl rfl⟩ (by decide +kernel) rfl : e_Sn 205 132 (o_getf (e_f1 13 4) 135)) t_205_135
noncomputable def n_205_131 : e_Y := u_ld f_okA f_l1 n_205_132
theorem t_205_131 : e_Sn 205 131 (e_un n_205_131) := u_ldAT f_l1_eq (s_aload (i := .aload_n 1) (len := 1) hq_205 (by decide +kernel) rfl (.inr ⟨1, rfl, rfl, rfl⟩) : e_Sn 205 131 (o_load e_okR 1 132)) t_205_132
noncomputable def n_205_128 : e_Y := u_jmp y_ge (u_old2 (o_clt 131 157) 131 n_205_131 n_205_157) n_205_131 n_205_157
theorem t_205_128 : e_Sn 205 128 (e_un n_205_128) := u_cltT rfl (s_cge (off := (29)) hq_205 (by decide +kernel) rfl rfl : e_Sn 205 128 (o_clt 131 157)) t_205_131 t_205_157
noncomputable def n_205_127 : e_Y := u_push (.inl 2147483653) n_205_128
theorem t_205_127 : e_Sn 205 127 (e_un n_205_127) := u_pushT (s_iconst (n := (5)) hq_205 (by decide +kernel) rfl ⟨by decide +kernel, by decide +kernel⟩ : e_Sn 205 127 (o_push (.inl 2147483653) 128)) t_205_128
noncomputable def n_205_126 : e_Y := u_ld f_okI f_l2 n_205_127
theorem t_205_126 : e_Sn 205 126 (e_un n_205_126) := u_ldIT f_l2_eq (s_iload (i := .iload_n 2) (len := 1) hq_205 (by decide +kernel) rfl (.inr ⟨2, rfl, rfl, rfl⟩) : e_Sn 205 126 (o_load e_okI 2 127)) t_205_127
noncomputable def n_205_125 : e_Y := u_st f_okI f_s2 n_205_126
theorem t_205_125 : e_Sn 205 125 (e_un n_205_125) := u_stIT (fun _ _ _ => f_s2_eq) (s_istore (i := .istore_n 2) (len := 1) hq_205 (by decide +kernel) rfl (.inr ⟨2, rfl, rfl, rfl⟩) : e_Sn 205 125 (o_store e_okI 2 126)) t_205_126
noncomputable def n_205_124 : e_Y := u_push (.inl 2147483648) n_205_125
theorem t_205_124 : e_Sn 205 124 (e_un n_205_124) := u_pushT (s_iconst (n := (0)) hq_205 (by decide +kernel) rfl ⟨by decide +kernel, by decide +kernel⟩ : e_Sn 205 124 (o_push (.inl 2147483648) 125)) t_205_125
noncomputable def n_205_93 : e_Y := u_jmp y_ge (u_old2 (o_clt 96 124) 96 (u_at 96) n_205_124) (u_at 96) n_205_124
theorem t_205_93 : e_Sn 205 93 (e_un n_205_93) := u_cltT rfl (s_cge (off := (31)) hq_205 (by decide +kernel) rfl rfl : e_Sn 205 93 (o_clt 96 124)) u_atT t_205_124
noncomputable def n_205_90 : e_Y := u_callV 19 236 1 20 1 n_236_0 n_205_93
theorem t_205_90 : e_Sn 205 90 (e_un n_205_90) := u_callVT rfl (s_callV (ci := 19) (C := er_19) (T := et_19) (N := 3) (index := 53) hq_205 ho_205 hy_236 hp_236 hc_236 hi_236 hd_236 (List.mem_of_getElem? (i := 2048) (by decide +kernel)) hs_236 (List.mem_of_getElem? (i := 2002) (by decide +kernel)) rfl (by decide +kernel) rfl : e_Sn 205 90 (o_callV (e_s1 19 236 1) 1 93)) t_236_0 t_205_93
noncomputable def n_205_87 : e_Y := u_getf 13 3 (u_old (o_getf (e_f1 13 3) 90) n_205_90) n_205_90
theorem t_205_87 : e_Sn 205 87 (e_un n_205_87) := u_getfT (s_getf (C := er_13) (T := et_13) (N := 13) (ref := "PlateroomprinterModel$Machine") (index := 31) (ci := 13) (k := 3) hq_205 ho_205 ⟨rfl, by decide, ei_13, (List.mem_of_getElem? (i := 1899) (by decide +kernel)), .inl rfl⟩ (by decide +kernel) rfl : e_Sn 205 87 (o_getf (e_f1 13 3) 90)) t_205_90
noncomputable def n_205_86 : e_Y := u_ld f_okA f_l0 n_205_87
theorem t_205_86 : e_Sn 205 86 (e_un n_205_86) := u_ldAT f_l0_eq (s_aload (i := .aload_n 0) (len := 1) hq_205 (by decide +kernel) rfl (.inr ⟨0, rfl, rfl, rfl⟩) : e_Sn 205 86 (o_load e_okR 0 87)) t_205_87
noncomputable def n_205_85 : e_Y := u_ld f_okI f_l2 n_205_86
theorem t_205_85 : e_Sn 205 85 (e_un n_205_85) := u_ldIT f_l2_eq (s_iload (i := .iload_n 2) (len := 1) hq_205 (by decide +kernel) rfl (.inr ⟨2, rfl, rfl, rfl⟩) : e_Sn 205 85 (o_load e_okI 2 86)) t_205_86
noncomputable def n_205_84 : e_Y := u_st f_okI f_s2 n_205_85
theorem t_205_84 : e_Sn 205 84 (e_un n_205_84) := u_stIT (fun _ _ _ => f_s2_eq) (s_istore (i := .istore_n 2) (len := 1) hq_205 (by decide +kernel) rfl (.inr ⟨2, rfl, rfl, rfl⟩) : e_Sn 205 84 (o_store e_okI 2 85)) t_205_85
noncomputable def n_205_83 : e_Y := u_push (.inl 2147483648) n_205_84
theorem t_205_83 : e_Sn 205 83 (e_un n_205_83) := u_pushT (s_iconst (n := (0)) hq_205 (by decide +kernel) rfl ⟨by decide +kernel, by decide +kernel⟩ : e_Sn 205 83 (o_push (.inl 2147483648) 84)) t_205_84
noncomputable def n_205_80 : e_Y := u_old (o_putf (e_f1 13 2) e_okR 83) n_205_83
theorem t_205_80 : e_Sn 205 80 (e_un n_205_80) := u_oldT (s_putf (ty0 := ey_13) (ok := e_okR) (C := er_13) (T := et_13) (N := 13) (ref := "PlateroomprinterModel$Machine") (index := 27) (ci := 13) (k := 2) hq_205 ho_205 ⟨rfl, by decide, ei_13, (List.mem_of_getElem? (i := 1896) (by decide +kernel)), .inl rfl⟩ eo_13 en_13 e_oksR (.inl rfl) (by decide +kernel) rfl : e_Sn 205 80 (o_putf (e_f1 13 2) e_okR 83)) t_205_83 (e_cg_putf (e_f1 13 2) e_okR)
noncomputable def n_205_77 : e_Y := u_callV 17 214 3 22 1 n_214_0 n_205_80
theorem t_205_77 : e_Sn 205 77 (e_un n_205_77) := u_callVT rfl (s_callV (ci := 17) (C := er_17) (T := et_17) (N := 6) (index := 61) hq_205 ho_205 hy_214 hp_214 hc_214 hi_214 hd_214 (List.mem_of_getElem? (i := 2057) (by decide +kernel)) hs_214 (List.mem_of_getElem? (i := 2059) (by decide +kernel)) rfl (by decide +kernel) rfl : e_Sn 205 77 (o_callV (e_s1 17 214 3) 1 80)) t_214_0 t_205_80
noncomputable def n_205_74 : e_Y := u_getf 13 2 (u_old (o_getf (e_f1 13 2) 77) n_205_77) n_205_77
theorem t_205_74 : e_Sn 205 74 (e_un n_205_74) := u_getfT (s_getf (C := er_13) (T := et_13) (N := 13) (ref := "PlateroomprinterModel$Machine") (index := 27) (ci := 13) (k := 2) hq_205 ho_205 ⟨rfl, by decide, ei_13, (List.mem_of_getElem? (i := 1896) (by decide +kernel)), .inl rfl⟩ (by decide +kernel) rfl : e_Sn 205 74 (o_getf (e_f1 13 2) 77)) t_205_77
noncomputable def n_205_73 : e_Y := u_ld f_okA f_l0 n_205_74
theorem t_205_73 : e_Sn 205 73 (e_un n_205_73) := u_ldAT f_l0_eq (s_aload (i := .aload_n 0) (len := 1) hq_205 (by decide +kernel) rfl (.inr ⟨0, rfl, rfl, rfl⟩) : e_Sn 205 73 (o_load e_okR 0 74)) t_205_74
noncomputable def n_205_72 : e_Y := u_ld f_okA f_l1 n_205_73
theorem t_205_72 : e_Sn 205 72 (e_un n_205_72) := u_ldAT f_l1_eq (s_aload (i := .aload_n 1) (len := 1) hq_205 (by decide +kernel) rfl (.inr ⟨1, rfl, rfl, rfl⟩) : e_Sn 205 72 (o_load e_okR 1 73)) t_205_73
noncomputable def n_205_69 : e_Y := (u_at 48)
theorem t_205_69 : e_Sn 205 69 (e_un n_205_69) := u_gotoT (s_goto (off := (-21)) hq_205 (by decide +kernel) rfl : e_Sn 205 69 (o_goto 48)) u_atT
noncomputable def n_205_66 : e_Y := u_inc f_l2 f_s2 1 n_205_69
theorem t_205_66 : e_Sn 205 66 (e_un n_205_66) := u_incT f_l2_eq (fun _ _ _ => f_s2_eq) (s_iinc (zz := (1)) hq_205 (by decide +kernel) rfl (by decide +kernel) ⟨by decide, by decide⟩ : e_Sn 205 66 (o_iinc 2 1 69)) t_205_69
noncomputable def n_205_65 : e_Y := u_old (o_astR 6 (fun _ => false) 66) n_205_66
theorem t_205_65 : e_Sn 205 65 (e_un n_205_65) := u_oldT (s_aast (tc := 3) (E := "PlateroomprinterModel$Item") hq_205 rfl (by decide) (fun k hk => by cases hk) (by decide +kernel) rfl : e_Sn 205 65 (o_astR 6 (fun _ => false) 66)) t_205_66 (e_cg_astR 6 (fun _ => false))
noncomputable def n_205_64 : e_Y := u_ald 6 (u_old (o_aldO 6 65) n_205_65) n_205_65
theorem t_205_64 : e_Sn 205 64 (e_un n_205_64) := u_aldOT (s_aald (tc := 3) rfl hq_205 (by decide +kernel) rfl : e_Sn 205 64 (o_aldO 6 65)) t_205_65
noncomputable def n_205_63 : e_Y := u_ld f_okI f_l2 n_205_64
theorem t_205_63 : e_Sn 205 63 (e_un n_205_63) := u_ldIT f_l2_eq (s_iload (i := .iload_n 2) (len := 1) hq_205 (by decide +kernel) rfl (.inr ⟨2, rfl, rfl, rfl⟩) : e_Sn 205 63 (o_load e_okI 2 64)) t_205_64
noncomputable def n_205_60 : e_Y := u_getf 13 1 (u_old (o_getf (e_f1 13 1) 63) n_205_63) n_205_63
theorem t_205_60 : e_Sn 205 60 (e_un n_205_60) := u_getfT (s_getf (C := er_13) (T := et_13) (N := 13) (ref := "PlateroomprinterModel$Machine") (index := 20) (ci := 13) (k := 1) hq_205 ho_205 ⟨rfl, by decide, ei_13, (List.mem_of_getElem? (i := 1893) (by decide +kernel)), .inl rfl⟩ (by decide +kernel) rfl : e_Sn 205 60 (o_getf (e_f1 13 1) 63)) t_205_63
noncomputable def n_205_59 : e_Y := u_ld f_okA f_l0 n_205_60
theorem t_205_59 : e_Sn 205 59 (e_un n_205_59) := u_ldAT f_l0_eq (s_aload (i := .aload_n 0) (len := 1) hq_205 (by decide +kernel) rfl (.inr ⟨0, rfl, rfl, rfl⟩) : e_Sn 205 59 (o_load e_okR 0 60)) t_205_60
noncomputable def n_205_58 : e_Y := u_ld f_okI f_l2 n_205_59
theorem t_205_58 : e_Sn 205 58 (e_un n_205_58) := u_ldIT f_l2_eq (s_iload (i := .iload_n 2) (len := 1) hq_205 (by decide +kernel) rfl (.inr ⟨2, rfl, rfl, rfl⟩) : e_Sn 205 58 (o_load e_okI 2 59)) t_205_59
noncomputable def n_205_55 : e_Y := u_getf 13 1 (u_old (o_getf (e_f1 13 1) 58) n_205_58) n_205_58
theorem t_205_55 : e_Sn 205 55 (e_un n_205_55) := u_getfT (s_getf (C := er_13) (T := et_13) (N := 13) (ref := "PlateroomprinterModel$Machine") (index := 20) (ci := 13) (k := 1) hq_205 ho_205 ⟨rfl, by decide, ei_13, (List.mem_of_getElem? (i := 1893) (by decide +kernel)), .inl rfl⟩ (by decide +kernel) rfl : e_Sn 205 55 (o_getf (e_f1 13 1) 58)) t_205_58
noncomputable def n_205_54 : e_Y := u_ld f_okA f_l1 n_205_55
theorem t_205_54 : e_Sn 205 54 (e_un n_205_54) := u_ldAT f_l1_eq (s_aload (i := .aload_n 1) (len := 1) hq_205 (by decide +kernel) rfl (.inr ⟨1, rfl, rfl, rfl⟩) : e_Sn 205 54 (o_load e_okR 1 55)) t_205_55
noncomputable def n_205_51 : e_Y := u_jmp y_ge (u_old2 (o_clt 54 72) 54 n_205_54 n_205_72) n_205_54 n_205_72
theorem t_205_51 : e_Sn 205 51 (e_un n_205_51) := u_cltT rfl (s_cge (off := (21)) hq_205 (by decide +kernel) rfl rfl : e_Sn 205 51 (o_clt 54 72)) t_205_54 t_205_72
noncomputable def n_205_49 : e_Y := u_push (.inl 2147483658) n_205_51
theorem t_205_49 : e_Sn 205 49 (e_un n_205_49) := u_pushT (s_bipush (n := (10)) hq_205 (by decide +kernel) rfl ⟨by decide +kernel, by decide +kernel⟩ : e_Sn 205 49 (o_push (.inl 2147483658) 51)) t_205_51
noncomputable def n_205_48 : e_Y := u_ld f_okI f_l2 n_205_49
theorem t_205_48 : e_Sn 205 48 (e_un n_205_48) := u_ldIT f_l2_eq (s_iload (i := .iload_n 2) (len := 1) hq_205 (by decide +kernel) rfl (.inr ⟨2, rfl, rfl, rfl⟩) : e_Sn 205 48 (o_load e_okI 2 49)) t_205_49
noncomputable def n_205_47 : e_Y := u_st f_okI f_s2 n_205_48
theorem t_205_47 : e_Sn 205 47 (e_un n_205_47) := u_stIT (fun _ _ _ => f_s2_eq) (s_istore (i := .istore_n 2) (len := 1) hq_205 (by decide +kernel) rfl (.inr ⟨2, rfl, rfl, rfl⟩) : e_Sn 205 47 (o_store e_okI 2 48)) t_205_48
noncomputable def n_205_46 : e_Y := u_push (.inl 2147483648) n_205_47
theorem t_205_46 : e_Sn 205 46 (e_un n_205_46) := u_pushT (s_iconst (n := (0)) hq_205 (by decide +kernel) rfl ⟨by decide +kernel, by decide +kernel⟩ : e_Sn 205 46 (o_push (.inl 2147483648) 47)) t_205_47
noncomputable def n_205_18 : e_Y := u_jmp y_ge (u_old2 (o_clt 21 46) 21 (u_at 21) n_205_46) (u_at 21) n_205_46
theorem t_205_18 : e_Sn 205 18 (e_un n_205_18) := u_cltT rfl (s_cge (off := (28)) hq_205 (by decide +kernel) rfl rfl : e_Sn 205 18 (o_clt 21 46)) u_atT t_205_46
noncomputable def n_205_15 : e_Y := u_callV 19 236 1 20 1 n_236_0 n_205_18
theorem t_205_15 : e_Sn 205 15 (e_un n_205_15) := u_callVT rfl (s_callV (ci := 19) (C := er_19) (T := et_19) (N := 3) (index := 53) hq_205 ho_205 hy_236 hp_236 hc_236 hi_236 hd_236 (List.mem_of_getElem? (i := 2048) (by decide +kernel)) hs_236 (List.mem_of_getElem? (i := 2002) (by decide +kernel)) rfl (by decide +kernel) rfl : e_Sn 205 15 (o_callV (e_s1 19 236 1) 1 18)) t_236_0 t_205_18
noncomputable def n_205_12 : e_Y := u_getf 13 0 (u_old (o_getf (e_f1 13 0) 15) n_205_15) n_205_15
theorem t_205_12 : e_Sn 205 12 (e_un n_205_12) := u_getfT (s_getf (C := er_13) (T := et_13) (N := 13) (ref := "PlateroomprinterModel$Machine") (index := 12) (ci := 13) (k := 0) hq_205 ho_205 ⟨rfl, by decide, ei_13, (List.mem_of_getElem? (i := 1890) (by decide +kernel)), .inl rfl⟩ (by decide +kernel) rfl : e_Sn 205 12 (o_getf (e_f1 13 0) 15)) t_205_15
noncomputable def n_205_11 : e_Y := u_ld f_okA f_l0 n_205_12
theorem t_205_11 : e_Sn 205 11 (e_un n_205_11) := u_ldAT f_l0_eq (s_aload (i := .aload_n 0) (len := 1) hq_205 (by decide +kernel) rfl (.inr ⟨0, rfl, rfl, rfl⟩) : e_Sn 205 11 (o_load e_okR 0 12)) t_205_12
noncomputable def n_205_10 : e_Y := u_ld f_okI f_l2 n_205_11
theorem t_205_10 : e_Sn 205 10 (e_un n_205_10) := u_ldIT f_l2_eq (s_iload (i := .iload_n 2) (len := 1) hq_205 (by decide +kernel) rfl (.inr ⟨2, rfl, rfl, rfl⟩) : e_Sn 205 10 (o_load e_okI 2 11)) t_205_11
noncomputable def n_205_9 : e_Y := u_st f_okI f_s2 n_205_10
theorem t_205_9 : e_Sn 205 9 (e_un n_205_9) := u_stIT (fun _ _ _ => f_s2_eq) (s_istore (i := .istore_n 2) (len := 1) hq_205 (by decide +kernel) rfl (.inr ⟨2, rfl, rfl, rfl⟩) : e_Sn 205 9 (o_store e_okI 2 10)) t_205_10
noncomputable def n_205_8 : e_Y := u_push (.inl 2147483648) n_205_9
theorem t_205_8 : e_Sn 205 8 (e_un n_205_8) := u_pushT (s_iconst (n := (0)) hq_205 (by decide +kernel) rfl ⟨by decide +kernel, by decide +kernel⟩ : e_Sn 205 8 (o_push (.inl 2147483648) 9)) t_205_9
noncomputable def n_205_7 : e_Y := u_st f_okA f_s1 n_205_8
theorem t_205_7 : e_Sn 205 7 (e_un n_205_7) := u_stAT (fun _ _ _ => f_s1_eq) (s_astore (i := .astore_n 1) (len := 1) hq_205 (by decide +kernel) rfl (.inr ⟨1, rfl, rfl, rfl⟩) : e_Sn 205 7 (o_store e_okR 1 8)) t_205_8
noncomputable def n_205_4 : e_Y := u_tab (o_callI 204 2 1 7)
theorem t_205_4 : e_Sn 205 4 (e_un n_205_4) := u_tabT (s_callI (index := 52) hq_205 ho_205 hy_204 hp_204 hc_204 hi_204 hd_204 (List.mem_of_getElem? (i := 2047) (by decide +kernel)) rfl rfl hs_204 (by decide +kernel) rfl : e_Sn 205 4 (o_callI 204 2 1 7))
noncomputable def n_205_3 : e_Y := u_old (o_dup 4) n_205_4
theorem t_205_3 : e_Sn 205 3 (e_un n_205_3) := u_oldT (s_dup hq_205 (by decide +kernel) rfl : e_Sn 205 3 (o_dup 4)) t_205_4 e_cg_dup
noncomputable def n_205_0 : e_Y := u_tab (o_new 13 13 ef_13 3)
theorem t_205_0 : e_Sn 205 0 (e_un n_205_0) := u_tabT (s_new (index := 13) (ci := 13) (N := 13) (C := er_13) (T := et_13) (ty0 := ey_13) (fv := eg_13) hq_205 ho_205 rfl ei_13 eo_13 (List.mem_of_getElem? (i := 2046) (by decide +kernel)) (List.mem_of_getElem? (i := 1745) (by decide +kernel)) (List.mem_of_getElem? (i := 152) (by decide +kernel)) eh_13 rfl (e_newrel ek_13) (by decide +kernel) rfl : e_Sn 205 0 (o_new 13 13 ef_13 3))
noncomputable def e_tb_205 : e_X := (e_br 7 (e_br 3 (e_lf 0 (e_un n_205_0)) (e_lf 3 (e_un n_205_3))) (e_br 48 (e_lf 7 (e_un n_205_7)) (e_br 126 (e_lf 48 (e_un n_205_48)) (e_lf 126 (e_un n_205_126)))))
theorem e_tk_205 : e_Tb 205 e_tb_205 := (e_brT (e_brT (e_lfT t_205_0) (e_lfT t_205_3)) (e_brT (e_lfT t_205_7) (e_brT (e_lfT t_205_48) (e_lfT t_205_126))))
theorem hq_207 : (e_ml[207]?).map (·.2.1) = some prog_19_method_1_code := rfl
theorem ho_207 : (e_ml[207]?).map (·.1.cls) = some "PlateroomprinterModel$Row" := rfl
theorem hr_207 : (e_ml[207]?).map (·.2.2.2) = some none := rfl
noncomputable def n_207_9 : e_Y := u_tab (o_retv)
theorem t_207_9 : e_Sn 207 9 (e_un n_207_9) := u_tabT (s_vret hq_207 hr_207 (by decide +kernel) : e_Sn 207 9 (o_retv))
noncomputable def n_207_6 : e_Y := u_old (o_putf (e_f1 15 0) e_okR 9) n_207_9
theorem t_207_6 : e_Sn 207 6 (e_un n_207_6) := u_oldT (s_putf (ty0 := ey_15) (ok := e_okR) (C := er_15) (T := et_15) (N := 8) (ref := "PlateroomprinterModel$Row") (index := 7) (ci := 15) (k := 0) hq_207 ho_207 ⟨rfl, by decide, ei_15, (List.mem_of_getElem? (i := 2122) (by decide +kernel)), .inl rfl⟩ eo_15 en_15 e_oksR (.inr ⟨rfl, rfl, rfl⟩) (by decide +kernel) rfl : e_Sn 207 6 (o_putf (e_f1 15 0) e_okR 9)) t_207_9 (e_cg_putf (e_f1 15 0) e_okR)
noncomputable def n_207_5 : e_Y := u_ld f_okA f_l1 n_207_6
theorem t_207_5 : e_Sn 207 5 (e_un n_207_5) := u_ldAT f_l1_eq (s_aload (i := .aload_n 1) (len := 1) hq_207 (by decide +kernel) rfl (.inr ⟨1, rfl, rfl, rfl⟩) : e_Sn 207 5 (o_load e_okR 1 6)) t_207_6
noncomputable def n_207_4 : e_Y := u_ld f_okA f_l0 n_207_5
theorem t_207_4 : e_Sn 207 4 (e_un n_207_4) := u_ldAT f_l0_eq (s_aload (i := .aload_n 0) (len := 1) hq_207 (by decide +kernel) rfl (.inr ⟨0, rfl, rfl, rfl⟩) : e_Sn 207 4 (o_load e_okR 0 5)) t_207_5
noncomputable def n_207_1 : e_Y := u_tab (o_oinit 4)
theorem t_207_1 : e_Sn 207 1 (e_un n_207_1) := u_tabT (s_oinit (idx := 1) hq_207 ho_207 (List.mem_of_getElem? (i := 2121) (by decide +kernel)) (List.mem_of_getElem? (i := 190) (by decide +kernel)) (List.mem_of_getElem? (i := 191) (by decide +kernel)) (by decide +kernel) rfl : e_Sn 207 1 (o_oinit 4))
noncomputable def n_207_0 : e_Y := u_ld f_okA f_l0 n_207_1
theorem t_207_0 : e_Sn 207 0 (e_un n_207_0) := u_ldAT f_l0_eq (s_aload (i := .aload_n 0) (len := 1) hq_207 (by decide +kernel) rfl (.inr ⟨0, rfl, rfl, rfl⟩) : e_Sn 207 0 (o_load e_okR 0 1)) t_207_1
noncomputable def e_tb_207 : e_X := (e_br 4 (e_lf 0 (e_un n_207_0)) (e_lf 4 (e_un n_207_4)))
theorem e_tk_207 : e_Tb 207 e_tb_207 := (e_brT (e_lfT t_207_0) (e_lfT t_207_4))
theorem hq_209 : (e_ml[209]?).map (·.2.1) = some prog_20_method_1_code := rfl
theorem ho_209 : (e_ml[209]?).map (·.1.cls) = some "PlateroomprinterModel$Run" := rfl
theorem hr_209 : (e_ml[209]?).map (·.2.2.2) = some none := rfl
noncomputable def n_209_46 : e_Y := u_tab (o_retv)
theorem t_209_46 : e_Sn 209 46 (e_un n_209_46) := u_tabT (s_vret hq_209 hr_209 (by decide +kernel) : e_Sn 209 46 (o_retv))
noncomputable def n_209_45 : e_Y := u_pop n_209_46
theorem t_209_45 : e_Sn 209 45 (e_un n_209_45) := u_popT (s_pop hq_209 (by decide +kernel) rfl : e_Sn 209 45 (o_pop 46)) t_209_46
noncomputable def n_209_42 : e_Y := u_callV 19 225 2 21 2 n_225_0 n_209_45
theorem t_209_42 : e_Sn 209 42 (e_un n_209_42) := u_callVT rfl (s_callV (ci := 19) (C := er_19) (T := et_19) (N := 3) (index := 34) hq_209 ho_209 hy_225 hp_225 hc_225 hi_225 hd_225 (List.mem_of_getElem? (i := 2149) (by decide +kernel)) hs_225 (List.mem_of_getElem? (i := 1822) (by decide +kernel)) rfl (by decide +kernel) rfl : e_Sn 209 42 (o_callV (e_s1 19 225 2) 2 45)) t_225_0 t_209_45
noncomputable def n_209_39 : e_Y := u_tab (o_callI 207 2 2 42)
theorem t_209_39 : e_Sn 209 39 (e_un n_209_39) := u_tabT (s_callI (index := 31) hq_209 ho_209 hy_207 hp_207 hc_207 hi_207 hd_207 (List.mem_of_getElem? (i := 2118) (by decide +kernel)) rfl rfl hs_207 (by decide +kernel) rfl : e_Sn 209 39 (o_callI 207 2 2 42))
noncomputable def n_209_38 : e_Y := u_ld f_okA f_l2 n_209_39
theorem t_209_38 : e_Sn 209 38 (e_un n_209_38) := u_ldAT f_l2_eq (s_aload (i := .aload_n 2) (len := 1) hq_209 (by decide +kernel) rfl (.inr ⟨2, rfl, rfl, rfl⟩) : e_Sn 209 38 (o_load e_okR 2 39)) t_209_39
noncomputable def n_209_37 : e_Y := u_old (o_dup 38) n_209_38
theorem t_209_37 : e_Sn 209 37 (e_un n_209_37) := u_oldT (s_dup hq_209 (by decide +kernel) rfl : e_Sn 209 37 (o_dup 38)) t_209_38 e_cg_dup
noncomputable def n_209_34 : e_Y := u_tab (o_new 15 8 ef_15 37)
theorem t_209_34 : e_Sn 209 34 (e_un n_209_34) := u_tabT (s_new (index := 29) (ci := 15) (N := 8) (C := er_15) (T := et_15) (ty0 := ey_15) (fv := eg_15) hq_209 ho_209 rfl ei_15 eo_15 (List.mem_of_getElem? (i := 2116) (by decide +kernel)) (List.mem_of_getElem? (i := 2117) (by decide +kernel)) (List.mem_of_getElem? (i := 171) (by decide +kernel)) eh_15 rfl (e_newrel ek_15) (by decide +kernel) rfl : e_Sn 209 34 (o_new 15 8 ef_15 37))
noncomputable def n_209_31 : e_Y := u_getf 16 1 (u_old (o_getf (e_f1 16 1) 34) n_209_34) n_209_34
theorem t_209_31 : e_Sn 209 31 (e_un n_209_31) := u_getfT (s_getf (C := er_16) (T := et_16) (N := 5) (ref := "PlateroomprinterModel$Run") (index := 12) (ci := 16) (k := 1) hq_209 ho_209 ⟨rfl, by decide, ei_16, (List.mem_of_getElem? (i := 2151) (by decide +kernel)), .inl rfl⟩ (by decide +kernel) rfl : e_Sn 209 31 (o_getf (e_f1 16 1) 34)) t_209_34
noncomputable def n_209_30 : e_Y := u_ld f_okA f_l0 n_209_31
theorem t_209_30 : e_Sn 209 30 (e_un n_209_30) := u_ldAT f_l0_eq (s_aload (i := .aload_n 0) (len := 1) hq_209 (by decide +kernel) rfl (.inr ⟨0, rfl, rfl, rfl⟩) : e_Sn 209 30 (o_load e_okR 0 31)) t_209_31
noncomputable def n_209_27 : e_Y := u_old (o_putf (e_f1 16 0) e_okR 30) n_209_30
theorem t_209_27 : e_Sn 209 27 (e_un n_209_27) := u_oldT (s_putf (ty0 := ey_16) (ok := e_okR) (C := er_16) (T := et_16) (N := 5) (ref := "PlateroomprinterModel$Run") (index := 25) (ci := 16) (k := 0) hq_209 ho_209 ⟨rfl, by decide, ei_16, (List.mem_of_getElem? (i := 2150) (by decide +kernel)), .inl rfl⟩ eo_16 en_16 e_oksR (.inr ⟨rfl, rfl, rfl⟩) (by decide +kernel) rfl : e_Sn 209 27 (o_putf (e_f1 16 0) e_okR 30)) t_209_30 (e_cg_putf (e_f1 16 0) e_okR)
noncomputable def n_209_26 : e_Y := u_ld f_okA f_l1 n_209_27
theorem t_209_26 : e_Sn 209 26 (e_un n_209_26) := u_ldAT f_l1_eq (s_aload (i := .aload_n 1) (len := 1) hq_209 (by decide +kernel) rfl (.inr ⟨1, rfl, rfl, rfl⟩) : e_Sn 209 26 (o_load e_okR 1 27)) t_209_27
noncomputable def n_209_25 : e_Y := u_ld f_okA f_l0 n_209_26
theorem t_209_25 : e_Sn 209 25 (e_un n_209_25) := u_ldAT f_l0_eq (s_aload (i := .aload_n 0) (len := 1) hq_209 (by decide +kernel) rfl (.inr ⟨0, rfl, rfl, rfl⟩) : e_Sn 209 25 (o_load e_okR 0 26)) t_209_26
noncomputable def n_209_22 : e_Y := u_old (o_putf (e_f1 16 4) e_okI 25) n_209_25
theorem t_209_22 : e_Sn 209 22 (e_un n_209_22) := u_oldT (s_putf (ty0 := ey_16) (ok := e_okI) (C := er_16) (T := et_16) (N := 5) (ref := "PlateroomprinterModel$Run") (index := 22) (ci := 16) (k := 4) hq_209 ho_209 ⟨rfl, by decide, ei_16, (List.mem_of_getElem? (i := 2155) (by decide +kernel)), .inl rfl⟩ eo_16 en_16 e_oksI (.inl rfl) (by decide +kernel) rfl : e_Sn 209 22 (o_putf (e_f1 16 4) e_okI 25)) t_209_25 (e_cg_putf (e_f1 16 4) e_okI)
noncomputable def n_209_21 : e_Y := u_push (.inl 2147483647) n_209_22
theorem t_209_21 : e_Sn 209 21 (e_un n_209_21) := u_pushT (s_iconst (n := (-1)) hq_209 (by decide +kernel) rfl ⟨by decide +kernel, by decide +kernel⟩ : e_Sn 209 21 (o_push (.inl 2147483647) 22)) t_209_22
noncomputable def n_209_20 : e_Y := u_ld f_okA f_l0 n_209_21
theorem t_209_20 : e_Sn 209 20 (e_un n_209_20) := u_ldAT f_l0_eq (s_aload (i := .aload_n 0) (len := 1) hq_209 (by decide +kernel) rfl (.inr ⟨0, rfl, rfl, rfl⟩) : e_Sn 209 20 (o_load e_okR 0 21)) t_209_21
noncomputable def n_209_17 : e_Y := u_old (o_putf (e_f1 16 3) e_okI 20) n_209_20
theorem t_209_17 : e_Sn 209 17 (e_un n_209_17) := u_oldT (s_putf (ty0 := ey_16) (ok := e_okI) (C := er_16) (T := et_16) (N := 5) (ref := "PlateroomprinterModel$Run") (index := 18) (ci := 16) (k := 3) hq_209 ho_209 ⟨rfl, by decide, ei_16, (List.mem_of_getElem? (i := 2153) (by decide +kernel)), .inl rfl⟩ eo_16 en_16 e_oksI (.inl rfl) (by decide +kernel) rfl : e_Sn 209 17 (o_putf (e_f1 16 3) e_okI 20)) t_209_20 (e_cg_putf (e_f1 16 3) e_okI)
noncomputable def n_209_16 : e_Y := u_push (.inl 2147483647) n_209_17
theorem t_209_16 : e_Sn 209 16 (e_un n_209_16) := u_pushT (s_iconst (n := (-1)) hq_209 (by decide +kernel) rfl ⟨by decide +kernel, by decide +kernel⟩ : e_Sn 209 16 (o_push (.inl 2147483647) 17)) t_209_17
noncomputable def n_209_15 : e_Y := u_ld f_okA f_l0 n_209_16
theorem t_209_15 : e_Sn 209 15 (e_un n_209_15) := u_ldAT f_l0_eq (s_aload (i := .aload_n 0) (len := 1) hq_209 (by decide +kernel) rfl (.inr ⟨0, rfl, rfl, rfl⟩) : e_Sn 209 15 (o_load e_okR 0 16)) t_209_16
noncomputable def n_209_12 : e_Y := u_old (o_putf (e_f1 16 1) e_okR 15) n_209_15
theorem t_209_12 : e_Sn 209 12 (e_un n_209_12) := u_oldT (s_putf (ty0 := ey_16) (ok := e_okR) (C := er_16) (T := et_16) (N := 5) (ref := "PlateroomprinterModel$Run") (index := 12) (ci := 16) (k := 1) hq_209 ho_209 ⟨rfl, by decide, ei_16, (List.mem_of_getElem? (i := 2151) (by decide +kernel)), .inl rfl⟩ eo_16 en_16 e_oksR (.inr ⟨rfl, rfl, rfl⟩) (by decide +kernel) rfl : e_Sn 209 12 (o_putf (e_f1 16 1) e_okR 15)) t_209_15 (e_cg_putf (e_f1 16 1) e_okR)
noncomputable def n_209_9 : e_Y := u_tab (o_callI 224 1 1 12)
theorem t_209_9 : e_Sn 209 9 (e_un n_209_9) := u_tabT (s_callI (index := 11) hq_209 ho_209 hy_224 hp_224 hc_224 hi_224 hd_224 (List.mem_of_getElem? (i := 2115) (by decide +kernel)) rfl rfl hs_224 (by decide +kernel) rfl : e_Sn 209 9 (o_callI 224 1 1 12))
noncomputable def n_209_8 : e_Y := u_old (o_dup 9) n_209_9
theorem t_209_8 : e_Sn 209 8 (e_un n_209_8) := u_oldT (s_dup hq_209 (by decide +kernel) rfl : e_Sn 209 8 (o_dup 9)) t_209_9 e_cg_dup
noncomputable def n_209_5 : e_Y := u_tab (o_new 19 3 ef_19 8)
theorem t_209_5 : e_Sn 209 5 (e_un n_209_5) := u_tabT (s_new (index := 9) (ci := 19) (N := 3) (C := er_19) (T := et_19) (ty0 := ey_19) (fv := eg_19) hq_209 ho_209 rfl ei_19 eo_19 (List.mem_of_getElem? (i := 2114) (by decide +kernel)) (List.mem_of_getElem? (i := 1751) (by decide +kernel)) (List.mem_of_getElem? (i := 155) (by decide +kernel)) eh_19 rfl (e_newrel ek_19) (by decide +kernel) rfl : e_Sn 209 5 (o_new 19 3 ef_19 8))
noncomputable def n_209_4 : e_Y := u_ld f_okA f_l0 n_209_5
theorem t_209_4 : e_Sn 209 4 (e_un n_209_4) := u_ldAT f_l0_eq (s_aload (i := .aload_n 0) (len := 1) hq_209 (by decide +kernel) rfl (.inr ⟨0, rfl, rfl, rfl⟩) : e_Sn 209 4 (o_load e_okR 0 5)) t_209_5
noncomputable def n_209_1 : e_Y := u_tab (o_oinit 4)
theorem t_209_1 : e_Sn 209 1 (e_un n_209_1) := u_tabT (s_oinit (idx := 3) hq_209 ho_209 (List.mem_of_getElem? (i := 2113) (by decide +kernel)) (List.mem_of_getElem? (i := 190) (by decide +kernel)) (List.mem_of_getElem? (i := 191) (by decide +kernel)) (by decide +kernel) rfl : e_Sn 209 1 (o_oinit 4))
noncomputable def n_209_0 : e_Y := u_ld f_okA f_l0 n_209_1
theorem t_209_0 : e_Sn 209 0 (e_un n_209_0) := u_ldAT f_l0_eq (s_aload (i := .aload_n 0) (len := 1) hq_209 (by decide +kernel) rfl (.inr ⟨0, rfl, rfl, rfl⟩) : e_Sn 209 0 (o_load e_okR 0 1)) t_209_1
noncomputable def e_tb_209 : e_X := (e_br 12 (e_br 4 (e_lf 0 (e_un n_209_0)) (e_br 8 (e_lf 4 (e_un n_209_4)) (e_lf 8 (e_un n_209_8)))) (e_br 37 (e_lf 12 (e_un n_209_12)) (e_br 42 (e_lf 37 (e_un n_209_37)) (e_lf 42 (e_un n_209_42)))))
theorem e_tk_209 : e_Tb 209 e_tb_209 := (e_brT (e_brT (e_lfT t_209_0) (e_brT (e_lfT t_209_4) (e_lfT t_209_8))) (e_brT (e_lfT t_209_12) (e_brT (e_lfT t_209_37) (e_lfT t_209_42))))
theorem hq_208 : (e_ml[208]?).map (·.2.1) = some prog_19_method_2_code := rfl
theorem ho_208 : (e_ml[208]?).map (·.1.cls) = some "PlateroomprinterModel$Row" := rfl
theorem hr_208 : (e_ml[208]?).map (·.2.2.2) = some (some .boolean) := rfl
noncomputable def n_208_19 : e_Y := u_tab (o_ret e_okZ)
theorem t_208_19 : e_Sn 208 19 (e_un n_208_19) := u_tabT (s_zret hq_208 hr_208 (by decide +kernel) : e_Sn 208 19 (o_ret e_okZ))
noncomputable def n_208_15 : e_Y := n_208_19
theorem t_208_15 : e_Sn 208 15 (e_un n_208_15) := u_gotoT (s_goto (off := (4)) hq_208 (by decide +kernel) rfl : e_Sn 208 15 (o_goto 19)) t_208_19
noncomputable def n_208_14 : e_Y := u_push (.inl 2147483649) n_208_15
theorem t_208_14 : e_Sn 208 14 (e_un n_208_14) := u_pushT (s_iconst (n := (1)) hq_208 (by decide +kernel) rfl ⟨by decide +kernel, by decide +kernel⟩ : e_Sn 208 14 (o_push (.inl 2147483649) 15)) t_208_15
noncomputable def n_208_11 : e_Y := u_jmp y_ne (u_old2 (o_ceq 14 18) 14 n_208_14 (u_at 18)) n_208_14 (u_at 18)
theorem t_208_11 : e_Sn 208 11 (e_un n_208_11) := u_ceqT rfl (s_cne (off := (7)) hq_208 (by decide +kernel) rfl rfl : e_Sn 208 11 (o_ceq 14 18)) t_208_14 u_atT
noncomputable def n_208_8 : e_Y := u_callV 19 236 1 20 1 n_236_0 n_208_11
theorem t_208_8 : e_Sn 208 8 (e_un n_208_8) := u_callVT rfl (s_callV (ci := 19) (C := er_19) (T := et_19) (N := 3) (index := 17) hq_208 ho_208 hy_236 hp_236 hc_236 hi_236 hd_236 (List.mem_of_getElem? (i := 2187) (by decide +kernel)) hs_236 (List.mem_of_getElem? (i := 2002) (by decide +kernel)) rfl (by decide +kernel) rfl : e_Sn 208 8 (o_callV (e_s1 19 236 1) 1 11)) t_236_0 t_208_11
noncomputable def n_208_5 : e_Y := u_getf 15 0 (u_old (o_getf (e_f1 15 0) 8) n_208_8) n_208_8
theorem t_208_5 : e_Sn 208 5 (e_un n_208_5) := u_getfT (s_getf (C := er_15) (T := et_15) (N := 8) (ref := "PlateroomprinterModel$Row") (index := 7) (ci := 15) (k := 0) hq_208 ho_208 ⟨rfl, by decide, ei_15, (List.mem_of_getElem? (i := 2122) (by decide +kernel)), .inl rfl⟩ (by decide +kernel) rfl : e_Sn 208 5 (o_getf (e_f1 15 0) 8)) t_208_8
noncomputable def n_208_4 : e_Y := u_ld f_okA f_l0 n_208_5
theorem t_208_4 : e_Sn 208 4 (e_un n_208_4) := u_ldAT f_l0_eq (s_aload (i := .aload_n 0) (len := 1) hq_208 (by decide +kernel) rfl (.inr ⟨0, rfl, rfl, rfl⟩) : e_Sn 208 4 (o_load e_okR 0 5)) t_208_5
noncomputable def n_208_1 : e_Y := u_getf 15 1 (u_old (o_getf (e_f1 15 1) 4) n_208_4) n_208_4
theorem t_208_1 : e_Sn 208 1 (e_un n_208_1) := u_getfT (s_getf (C := er_15) (T := et_15) (N := 8) (ref := "PlateroomprinterModel$Row") (index := 13) (ci := 15) (k := 1) hq_208 ho_208 ⟨rfl, by decide, ei_15, (List.mem_of_getElem? (i := 2124) (by decide +kernel)), .inl rfl⟩ (by decide +kernel) rfl : e_Sn 208 1 (o_getf (e_f1 15 1) 4)) t_208_4
noncomputable def n_208_0 : e_Y := u_ld f_okA f_l0 n_208_1
theorem t_208_0 : e_Sn 208 0 (e_un n_208_0) := u_ldAT f_l0_eq (s_aload (i := .aload_n 0) (len := 1) hq_208 (by decide +kernel) rfl (.inr ⟨0, rfl, rfl, rfl⟩) : e_Sn 208 0 (o_load e_okR 0 1)) t_208_1
noncomputable def e_tb_208 : e_X := (e_lf 0 (e_un n_208_0))
theorem e_tk_208 : e_Tb 208 e_tb_208 := (e_lfT t_208_0)
theorem hq_212 : (e_ml[212]?).map (·.2.1) = some prog_20_method_2_code := rfl
theorem ho_212 : (e_ml[212]?).map (·.1.cls) = some "PlateroomprinterModel$Run" := rfl
theorem hr_212 : (e_ml[212]?).map (·.2.2.2) = some (some (.object "PlateroomprinterModel$Row")) := rfl
noncomputable def n_212_19 : e_Y := u_retA
theorem t_212_19 : e_Sn 212 19 (e_un n_212_19) := u_retAT (s_aret (.inl ⟨_, rfl⟩) hq_212 hr_212 (by decide +kernel) : e_Sn 212 19 (o_ret e_okR))
noncomputable def n_212_16 : e_Y := u_old (o_cast 15 19) n_212_19
theorem t_212_16 : e_Sn 212 16 (e_un n_212_16) := u_oldT (s_cast (index := 29) hq_212 ho_212 (List.mem_of_getElem? (i := 2116) (by decide +kernel)) (.inl ⟨by decide, rfl⟩) (by decide +kernel) rfl : e_Sn 212 16 (o_cast 15 19)) t_212_19 (e_cg_cast 15)
noncomputable def n_212_13 : e_Y := u_callV 19 229 2 21 2 n_229_0 n_212_16
theorem t_212_13 : e_Sn 212 13 (e_un n_212_13) := u_callVT rfl (s_callV (ci := 19) (C := er_19) (T := et_19) (N := 3) (index := 42) hq_212 ho_212 hy_229 hp_229 hc_229 hi_229 hd_229 (List.mem_of_getElem? (i := 2182) (by decide +kernel)) hs_229 (List.mem_of_getElem? (i := 2051) (by decide +kernel)) rfl (by decide +kernel) rfl : e_Sn 212 13 (o_callV (e_s1 19 229 2) 2 16)) t_229_0 t_212_16
noncomputable def n_212_12 : e_Y := u_bin a_isub (u_old (o_isub 13) n_212_13) n_212_13
theorem t_212_12 : e_Sn 212 12 (e_un n_212_12) := u_isubT (s_isub hq_212 (by decide +kernel) rfl : e_Sn 212 12 (o_isub 13)) t_212_13
noncomputable def n_212_11 : e_Y := u_push (.inl 2147483649) n_212_12
theorem t_212_11 : e_Sn 212 11 (e_un n_212_11) := u_pushT (s_iconst (n := (1)) hq_212 (by decide +kernel) rfl ⟨by decide +kernel, by decide +kernel⟩ : e_Sn 212 11 (o_push (.inl 2147483649) 12)) t_212_12
noncomputable def n_212_8 : e_Y := u_callV 19 236 1 20 1 n_236_0 n_212_11
theorem t_212_8 : e_Sn 212 8 (e_un n_212_8) := u_callVT rfl (s_callV (ci := 19) (C := er_19) (T := et_19) (N := 3) (index := 38) hq_212 ho_212 hy_236 hp_236 hc_236 hi_236 hd_236 (List.mem_of_getElem? (i := 2181) (by decide +kernel)) hs_236 (List.mem_of_getElem? (i := 2002) (by decide +kernel)) rfl (by decide +kernel) rfl : e_Sn 212 8 (o_callV (e_s1 19 236 1) 1 11)) t_236_0 t_212_11
noncomputable def n_212_5 : e_Y := u_getf 16 1 (u_old (o_getf (e_f1 16 1) 8) n_212_8) n_212_8
theorem t_212_5 : e_Sn 212 5 (e_un n_212_5) := u_getfT (s_getf (C := er_16) (T := et_16) (N := 5) (ref := "PlateroomprinterModel$Run") (index := 12) (ci := 16) (k := 1) hq_212 ho_212 ⟨rfl, by decide, ei_16, (List.mem_of_getElem? (i := 2151) (by decide +kernel)), .inl rfl⟩ (by decide +kernel) rfl : e_Sn 212 5 (o_getf (e_f1 16 1) 8)) t_212_8
noncomputable def n_212_4 : e_Y := u_ld f_okA f_l0 n_212_5
theorem t_212_4 : e_Sn 212 4 (e_un n_212_4) := u_ldAT f_l0_eq (s_aload (i := .aload_n 0) (len := 1) hq_212 (by decide +kernel) rfl (.inr ⟨0, rfl, rfl, rfl⟩) : e_Sn 212 4 (o_load e_okR 0 5)) t_212_5
noncomputable def n_212_1 : e_Y := u_getf 16 1 (u_old (o_getf (e_f1 16 1) 4) n_212_4) n_212_4
theorem t_212_1 : e_Sn 212 1 (e_un n_212_1) := u_getfT (s_getf (C := er_16) (T := et_16) (N := 5) (ref := "PlateroomprinterModel$Run") (index := 12) (ci := 16) (k := 1) hq_212 ho_212 ⟨rfl, by decide, ei_16, (List.mem_of_getElem? (i := 2151) (by decide +kernel)), .inl rfl⟩ (by decide +kernel) rfl : e_Sn 212 1 (o_getf (e_f1 16 1) 4)) t_212_4
noncomputable def n_212_0 : e_Y := u_ld f_okA f_l0 n_212_1
theorem t_212_0 : e_Sn 212 0 (e_un n_212_0) := u_ldAT f_l0_eq (s_aload (i := .aload_n 0) (len := 1) hq_212 (by decide +kernel) rfl (.inr ⟨0, rfl, rfl, rfl⟩) : e_Sn 212 0 (o_load e_okR 0 1)) t_212_1
noncomputable def e_tb_212 : e_X := (e_lf 0 (e_un n_212_0))
theorem e_tk_212 : e_Tb 212 e_tb_212 := (e_lfT t_212_0)
theorem hq_228 : (e_ml[228]?).map (·.2.1) = some prog_50_method_39_code := rfl
theorem ho_228 : (e_ml[228]?).map (·.1.cls) = some "java/util/ArrayList" := rfl
theorem hr_228 : (e_ml[228]?).map (·.2.2.2) = some none := rfl
noncomputable def n_228_43 : e_Y := u_tab (o_retv)
theorem t_228_43 : e_Sn 228 43 (e_un n_228_43) := u_tabT (s_vret hq_228 hr_228 (by decide +kernel) : e_Sn 228 43 (o_retv))
noncomputable def n_228_42 : e_Y := u_old (o_astR 3 (fun _ => false) 43) n_228_43
theorem t_228_42 : e_Sn 228 42 (e_un n_228_42) := u_oldT (s_aast (tc := 0) (E := "java/lang/Object") hq_228 rfl (by decide) (fun k hk => by cases hk) (by decide +kernel) rfl : e_Sn 228 42 (o_astR 3 (fun _ => false) 43)) t_228_43 (e_cg_astR 3 (fun _ => false))
noncomputable def n_228_41 : e_Y := u_push e_N n_228_42
theorem t_228_41 : e_Sn 228 41 (e_un n_228_41) := u_pushT (s_null hq_228 (by decide +kernel) rfl : e_Sn 228 41 (o_push e_N 42)) t_228_42
noncomputable def n_228_38 : e_Y := u_old (o_putf (e_f1 19 1) e_okI 41) n_228_41
theorem t_228_38 : e_Sn 228 38 (e_un n_228_38) := u_oldT (s_putf (ty0 := ey_19) (ok := e_okI) (C := er_19) (T := et_19) (N := 3) (ref := "java/util/ArrayList") (index := 48) (ci := 19) (k := 1) hq_228 ho_228 ⟨rfl, by decide, ei_19, (List.mem_of_getElem? (i := 1767) (by decide +kernel)), .inl rfl⟩ eo_19 en_19 e_oksI (.inl rfl) (by decide +kernel) rfl : e_Sn 228 38 (o_putf (e_f1 19 1) e_okI 41)) t_228_41 (e_cg_putf (e_f1 19 1) e_okI)
noncomputable def n_228_37 : e_Y := u_old (o_dup_x1 38) n_228_38
theorem t_228_37 : e_Sn 228 37 (e_un n_228_37) := u_oldT (s_dup_x1 hq_228 (by decide +kernel) rfl : e_Sn 228 37 (o_dup_x1 38)) t_228_38 e_cg_dup_x1
noncomputable def n_228_36 : e_Y := u_ld f_okI f_l3 n_228_37
theorem t_228_36 : e_Sn 228 36 (e_un n_228_36) := u_ldIT f_l3_eq (s_iload (i := .iload_n 3) (len := 1) hq_228 (by decide +kernel) rfl (.inr ⟨3, rfl, rfl, rfl⟩) : e_Sn 228 36 (o_load e_okI 3 37)) t_228_37
noncomputable def n_228_35 : e_Y := u_ld f_okA f_l0 n_228_36
theorem t_228_35 : e_Sn 228 35 (e_un n_228_35) := u_ldAT f_l0_eq (s_aload (i := .aload_n 0) (len := 1) hq_228 (by decide +kernel) rfl (.inr ⟨0, rfl, rfl, rfl⟩) : e_Sn 228 35 (o_load e_okR 0 36)) t_228_36
noncomputable def n_228_34 : e_Y := u_ld f_okA f_l1 n_228_35
theorem t_228_34 : e_Sn 228 34 (e_un n_228_34) := u_ldAT f_l1_eq (s_aload (i := .aload_n 1) (len := 1) hq_228 (by decide +kernel) rfl (.inr ⟨1, rfl, rfl, rfl⟩) : e_Sn 228 34 (o_load e_okR 1 35)) t_228_35
noncomputable def n_228_19 : e_Y := u_jmp y_le (u_old2 (o_cgt 22 34) 22 (u_at 22) n_228_34) (u_at 22) n_228_34
theorem t_228_19 : e_Sn 228 19 (e_un n_228_19) := u_cgtT rfl (s_cle (off := (15)) hq_228 (by decide +kernel) rfl rfl : e_Sn 228 19 (o_cgt 22 34)) u_atT t_228_34
noncomputable def n_228_18 : e_Y := u_ld f_okI f_l2 n_228_19
theorem t_228_18 : e_Sn 228 18 (e_un n_228_18) := u_ldIT f_l2_eq (s_iload (i := .iload_n 2) (len := 1) hq_228 (by decide +kernel) rfl (.inr ⟨2, rfl, rfl, rfl⟩) : e_Sn 228 18 (o_load e_okI 2 19)) t_228_19
noncomputable def n_228_17 : e_Y := u_st f_okI f_s3 n_228_18
theorem t_228_17 : e_Sn 228 17 (e_un n_228_17) := u_stIT (fun _ _ _ => f_s3_eq) (s_istore (i := .istore_n 3) (len := 1) hq_228 (by decide +kernel) rfl (.inr ⟨3, rfl, rfl, rfl⟩) : e_Sn 228 17 (o_store e_okI 3 18)) t_228_18
noncomputable def n_228_16 : e_Y := u_old (o_dup 17) n_228_17
theorem t_228_16 : e_Sn 228 16 (e_un n_228_16) := u_oldT (s_dup hq_228 (by decide +kernel) rfl : e_Sn 228 16 (o_dup 17)) t_228_17 e_cg_dup
noncomputable def n_228_15 : e_Y := u_bin a_isub (u_old (o_isub 16) n_228_16) n_228_16
theorem t_228_15 : e_Sn 228 15 (e_un n_228_15) := u_isubT (s_isub hq_228 (by decide +kernel) rfl : e_Sn 228 15 (o_isub 16)) t_228_16
noncomputable def n_228_14 : e_Y := u_push (.inl 2147483649) n_228_15
theorem t_228_14 : e_Sn 228 14 (e_un n_228_14) := u_pushT (s_iconst (n := (1)) hq_228 (by decide +kernel) rfl ⟨by decide +kernel, by decide +kernel⟩ : e_Sn 228 14 (o_push (.inl 2147483649) 15)) t_228_15
noncomputable def n_228_11 : e_Y := u_getf 19 1 (u_old (o_getf (e_f1 19 1) 14) n_228_14) n_228_14
theorem t_228_11 : e_Sn 228 11 (e_un n_228_11) := u_getfT (s_getf (C := er_19) (T := et_19) (N := 3) (ref := "java/util/ArrayList") (index := 48) (ci := 19) (k := 1) hq_228 ho_228 ⟨rfl, by decide, ei_19, (List.mem_of_getElem? (i := 1767) (by decide +kernel)), .inl rfl⟩ (by decide +kernel) rfl : e_Sn 228 11 (o_getf (e_f1 19 1) 14)) t_228_14
noncomputable def n_228_10 : e_Y := u_ld f_okA f_l0 n_228_11
theorem t_228_10 : e_Sn 228 10 (e_un n_228_10) := u_ldAT f_l0_eq (s_aload (i := .aload_n 0) (len := 1) hq_228 (by decide +kernel) rfl (.inr ⟨0, rfl, rfl, rfl⟩) : e_Sn 228 10 (o_load e_okR 0 11)) t_228_11
noncomputable def n_228_7 : e_Y := u_old (o_putf (e_f1 19 2) e_okI 10) n_228_10
theorem t_228_7 : e_Sn 228 7 (e_un n_228_7) := u_oldT (s_putf (ty0 := ey_19) (ok := e_okI) (C := er_19) (T := et_19) (N := 3) (ref := "java/util/ArrayList") (index := 63) (ci := 19) (k := 2) hq_228 ho_228 ⟨rfl, by decide, ei_19, (List.mem_of_getElem? (i := 1771) (by decide +kernel)), .inr (List.mem_of_getElem? (i := 1770) (by decide +kernel))⟩ eo_19 en_19 e_oksI (.inl rfl) (by decide +kernel) rfl : e_Sn 228 7 (o_putf (e_f1 19 2) e_okI 10)) t_228_10 (e_cg_putf (e_f1 19 2) e_okI)
noncomputable def n_228_6 : e_Y := u_bin a_iadd (u_old (o_iadd 7) n_228_7) n_228_7
theorem t_228_6 : e_Sn 228 6 (e_un n_228_6) := u_iaddT (s_iadd hq_228 (by decide +kernel) rfl : e_Sn 228 6 (o_iadd 7)) t_228_7
noncomputable def n_228_5 : e_Y := u_push (.inl 2147483649) n_228_6
theorem t_228_5 : e_Sn 228 5 (e_un n_228_5) := u_pushT (s_iconst (n := (1)) hq_228 (by decide +kernel) rfl ⟨by decide +kernel, by decide +kernel⟩ : e_Sn 228 5 (o_push (.inl 2147483649) 6)) t_228_6
noncomputable def n_228_2 : e_Y := u_getf 19 2 (u_old (o_getf (e_f1 19 2) 5) n_228_5) n_228_5
theorem t_228_2 : e_Sn 228 2 (e_un n_228_2) := u_getfT (s_getf (C := er_19) (T := et_19) (N := 3) (ref := "java/util/ArrayList") (index := 63) (ci := 19) (k := 2) hq_228 ho_228 ⟨rfl, by decide, ei_19, (List.mem_of_getElem? (i := 1771) (by decide +kernel)), .inr (List.mem_of_getElem? (i := 1770) (by decide +kernel))⟩ (by decide +kernel) rfl : e_Sn 228 2 (o_getf (e_f1 19 2) 5)) t_228_5
noncomputable def n_228_1 : e_Y := u_old (o_dup 2) n_228_2
theorem t_228_1 : e_Sn 228 1 (e_un n_228_1) := u_oldT (s_dup hq_228 (by decide +kernel) rfl : e_Sn 228 1 (o_dup 2)) t_228_2 e_cg_dup
noncomputable def n_228_0 : e_Y := u_ld f_okA f_l0 n_228_1
theorem t_228_0 : e_Sn 228 0 (e_un n_228_0) := u_ldAT f_l0_eq (s_aload (i := .aload_n 0) (len := 1) hq_228 (by decide +kernel) rfl (.inr ⟨0, rfl, rfl, rfl⟩) : e_Sn 228 0 (o_load e_okR 0 1)) t_228_1
noncomputable def e_tb_228 : e_X := (e_lf 0 (e_un n_228_0))
theorem e_tk_228 : e_Tb 228 e_tb_228 := (e_lfT t_228_0)
theorem hq_234 : (e_ml[234]?).map (·.2.1) = some prog_50_method_29_code := rfl
theorem ho_234 : (e_ml[234]?).map (·.1.cls) = some "java/util/ArrayList" := rfl
theorem hr_234 : (e_ml[234]?).map (·.2.2.2) = some (some (.object "java/lang/Object")) := rfl
noncomputable def n_234_25 : e_Y := u_retA
theorem t_234_25 : e_Sn 234 25 (e_un n_234_25) := u_retAT (s_aret (.inl ⟨_, rfl⟩) hq_234 hr_234 (by decide +kernel) : e_Sn 234 25 (o_ret e_okR))
noncomputable def n_234_24 : e_Y := u_ld f_okA f_l3 n_234_25
theorem t_234_24 : e_Sn 234 24 (e_un n_234_24) := u_ldAT f_l3_eq (s_aload (i := .aload_n 3) (len := 1) hq_234 (by decide +kernel) rfl (.inr ⟨3, rfl, rfl, rfl⟩) : e_Sn 234 24 (o_load e_okR 3 25)) t_234_25
noncomputable def n_234_21 : e_Y := u_callV 19 228 4 23 3 n_228_0 n_234_24
theorem t_234_21 : e_Sn 234 21 (e_un n_234_21) := u_callVT rfl (s_callV (ci := 19) (C := er_19) (T := et_19) (N := 3) (index := 144) hq_234 ho_234 hy_228 hp_228 hc_228 hi_228 hd_228 (List.mem_of_getElem? (i := 2027) (by decide +kernel)) hs_228 (List.mem_of_getElem? (i := 75) (by decide +kernel)) rfl (by decide +kernel) rfl : e_Sn 234 21 (o_callV (e_s1 19 228 4) 3 24)) t_228_0 t_234_24
noncomputable def n_234_20 : e_Y := u_ld f_okI f_l1 n_234_21
theorem t_234_20 : e_Sn 234 20 (e_un n_234_20) := u_ldIT f_l1_eq (s_iload (i := .iload_n 1) (len := 1) hq_234 (by decide +kernel) rfl (.inr ⟨1, rfl, rfl, rfl⟩) : e_Sn 234 20 (o_load e_okI 1 21)) t_234_21
noncomputable def n_234_19 : e_Y := u_ld f_okA f_l2 n_234_20
theorem t_234_19 : e_Sn 234 19 (e_un n_234_19) := u_ldAT f_l2_eq (s_aload (i := .aload_n 2) (len := 1) hq_234 (by decide +kernel) rfl (.inr ⟨2, rfl, rfl, rfl⟩) : e_Sn 234 19 (o_load e_okR 2 20)) t_234_20
noncomputable def n_234_18 : e_Y := u_ld f_okA f_l0 n_234_19
theorem t_234_18 : e_Sn 234 18 (e_un n_234_18) := u_ldAT f_l0_eq (s_aload (i := .aload_n 0) (len := 1) hq_234 (by decide +kernel) rfl (.inr ⟨0, rfl, rfl, rfl⟩) : e_Sn 234 18 (o_load e_okR 0 19)) t_234_19
noncomputable def n_234_17 : e_Y := u_st f_okA f_s3 n_234_18
theorem t_234_17 : e_Sn 234 17 (e_un n_234_17) := u_stAT (fun _ _ _ => f_s3_eq) (s_astore (i := .astore_n 3) (len := 1) hq_234 (by decide +kernel) rfl (.inr ⟨3, rfl, rfl, rfl⟩) : e_Sn 234 17 (o_store e_okR 3 18)) t_234_18
noncomputable def n_234_16 : e_Y := u_ald 3 (u_old (o_aldO 3 17) n_234_17) n_234_17
theorem t_234_16 : e_Sn 234 16 (e_un n_234_16) := u_aldOT (s_aald (tc := 0) rfl hq_234 (by decide +kernel) rfl : e_Sn 234 16 (o_aldO 3 17)) t_234_17
noncomputable def n_234_15 : e_Y := u_ld f_okI f_l1 n_234_16
theorem t_234_15 : e_Sn 234 15 (e_un n_234_15) := u_ldIT f_l1_eq (s_iload (i := .iload_n 1) (len := 1) hq_234 (by decide +kernel) rfl (.inr ⟨1, rfl, rfl, rfl⟩) : e_Sn 234 15 (o_load e_okI 1 16)) t_234_16
noncomputable def n_234_14 : e_Y := u_ld f_okA f_l2 n_234_15
theorem t_234_14 : e_Sn 234 14 (e_un n_234_14) := u_ldAT f_l2_eq (s_aload (i := .aload_n 2) (len := 1) hq_234 (by decide +kernel) rfl (.inr ⟨2, rfl, rfl, rfl⟩) : e_Sn 234 14 (o_load e_okR 2 15)) t_234_15
noncomputable def n_234_13 : e_Y := u_st f_okA f_s2 n_234_14
theorem t_234_13 : e_Sn 234 13 (e_un n_234_13) := u_stAT (fun _ _ _ => f_s2_eq) (s_astore (i := .astore_n 2) (len := 1) hq_234 (by decide +kernel) rfl (.inr ⟨2, rfl, rfl, rfl⟩) : e_Sn 234 13 (o_store e_okR 2 14)) t_234_14
noncomputable def n_234_10 : e_Y := u_getf 19 0 (u_old (o_getf (e_f1 19 0) 13) n_234_13) n_234_13
theorem t_234_10 : e_Sn 234 10 (e_un n_234_10) := u_getfT (s_getf (C := er_19) (T := et_19) (N := 3) (ref := "java/util/ArrayList") (index := 9) (ci := 19) (k := 0) hq_234 ho_234 ⟨rfl, by decide, ei_19, (List.mem_of_getElem? (i := 1764) (by decide +kernel)), .inl rfl⟩ (by decide +kernel) rfl : e_Sn 234 10 (o_getf (e_f1 19 0) 13)) t_234_13
noncomputable def n_234_9 : e_Y := u_ld f_okA f_l0 n_234_10
theorem t_234_9 : e_Sn 234 9 (e_un n_234_9) := u_ldAT f_l0_eq (s_aload (i := .aload_n 0) (len := 1) hq_234 (by decide +kernel) rfl (.inr ⟨0, rfl, rfl, rfl⟩) : e_Sn 234 9 (o_load e_okR 0 10)) t_234_10
noncomputable def n_234_8 : e_Y := u_pop n_234_9
theorem t_234_8 : e_Sn 234 8 (e_un n_234_8) := u_popT (s_pop hq_234 (by decide +kernel) rfl : e_Sn 234 8 (o_pop 9)) t_234_9
noncomputable def n_234_5 : e_Y := u_callS 241 2 21 2 n_241_0 n_234_8
theorem t_234_5 : e_Sn 234 5 (e_un n_234_5) := u_callST rfl (s_callS (index := 118) hq_234 ho_234 hy_241 hp_241 hc_241 hi_241 hd_241 (List.mem_of_getElem? (i := 2021) (by decide +kernel)) hs_241 (by decide +kernel) rfl : e_Sn 234 5 (o_callS 241 2 2 8)) t_241_0 t_234_8
noncomputable def n_234_2 : e_Y := u_getf 19 1 (u_old (o_getf (e_f1 19 1) 5) n_234_5) n_234_5
theorem t_234_2 : e_Sn 234 2 (e_un n_234_2) := u_getfT (s_getf (C := er_19) (T := et_19) (N := 3) (ref := "java/util/ArrayList") (index := 48) (ci := 19) (k := 1) hq_234 ho_234 ⟨rfl, by decide, ei_19, (List.mem_of_getElem? (i := 1767) (by decide +kernel)), .inl rfl⟩ (by decide +kernel) rfl : e_Sn 234 2 (o_getf (e_f1 19 1) 5)) t_234_5
noncomputable def n_234_1 : e_Y := u_ld f_okA f_l0 n_234_2
theorem t_234_1 : e_Sn 234 1 (e_un n_234_1) := u_ldAT f_l0_eq (s_aload (i := .aload_n 0) (len := 1) hq_234 (by decide +kernel) rfl (.inr ⟨0, rfl, rfl, rfl⟩) : e_Sn 234 1 (o_load e_okR 0 2)) t_234_2
noncomputable def n_234_0 : e_Y := u_ld f_okI f_l1 n_234_1
theorem t_234_0 : e_Sn 234 0 (e_un n_234_0) := u_ldIT f_l1_eq (s_iload (i := .iload_n 1) (len := 1) hq_234 (by decide +kernel) rfl (.inr ⟨1, rfl, rfl, rfl⟩) : e_Sn 234 0 (o_load e_okI 1 1)) t_234_1
noncomputable def e_tb_234 : e_X := (e_lf 0 (e_un n_234_0))
theorem e_tk_234 : e_Tb 234 e_tb_234 := (e_lfT t_234_0)
theorem hq_211 : (e_ml[211]?).map (·.2.1) = some prog_20_method_4_code := rfl
theorem ho_211 : (e_ml[211]?).map (·.1.cls) = some "PlateroomprinterModel$Run" := rfl
theorem hr_211 : (e_ml[211]?).map (·.2.2.2) = some (some .boolean) := rfl
noncomputable def n_211_75 : e_Y := u_tab (o_ret e_okZ)
theorem t_211_75 : e_Sn 211 75 (e_un n_211_75) := u_tabT (s_zret hq_211 hr_211 (by decide +kernel) : e_Sn 211 75 (o_ret e_okZ))
noncomputable def n_211_74 : e_Y := u_push (.inl 2147483648) n_211_75
theorem t_211_74 : e_Sn 211 74 (e_un n_211_74) := u_pushT (s_iconst (n := (0)) hq_211 (by decide +kernel) rfl ⟨by decide +kernel, by decide +kernel⟩ : e_Sn 211 74 (o_push (.inl 2147483648) 75)) t_211_75
noncomputable def n_211_67 : e_Y := u_if y_ne0 (u_old2 (o_ifeq 70 74) 70 (u_at 70) n_211_74) (u_at 70) n_211_74
theorem t_211_67 : e_Sn 211 67 (e_un n_211_67) := u_ifeqT rfl (s_ifne (off := (7)) hq_211 (by decide +kernel) rfl rfl : e_Sn 211 67 (o_ifeq 70 74)) u_atT t_211_74
noncomputable def n_211_64 : e_Y := u_callV 19 232 1 20 1 n_232_0 n_211_67
theorem t_211_64 : e_Sn 211 64 (e_un n_211_64) := u_callVT rfl (s_callV (ci := 19) (C := er_19) (T := et_19) (N := 3) (index := 81) hq_211 ho_211 hy_232 hp_232 hc_232 hi_232 hd_232 (List.mem_of_getElem? (i := 2176) (by decide +kernel)) hs_232 (List.mem_of_getElem? (i := 2015) (by decide +kernel)) rfl (by decide +kernel) rfl : e_Sn 211 64 (o_callV (e_s1 19 232 1) 1 67)) t_232_0 t_211_67
noncomputable def n_211_61 : e_Y := u_getf 16 1 (u_old (o_getf (e_f1 16 1) 64) n_211_64) n_211_64
theorem t_211_61 : e_Sn 211 61 (e_un n_211_61) := u_getfT (s_getf (C := er_16) (T := et_16) (N := 5) (ref := "PlateroomprinterModel$Run") (index := 12) (ci := 16) (k := 1) hq_211 ho_211 ⟨rfl, by decide, ei_16, (List.mem_of_getElem? (i := 2151) (by decide +kernel)), .inl rfl⟩ (by decide +kernel) rfl : e_Sn 211 61 (o_getf (e_f1 16 1) 64)) t_211_64
noncomputable def n_211_60 : e_Y := u_ld f_okA f_l0 n_211_61
theorem t_211_60 : e_Sn 211 60 (e_un n_211_60) := u_ldAT f_l0_eq (s_aload (i := .aload_n 0) (len := 1) hq_211 (by decide +kernel) rfl (.inr ⟨0, rfl, rfl, rfl⟩) : e_Sn 211 60 (o_load e_okR 0 61)) t_211_61
noncomputable def n_211_57 : e_Y := (u_at 0)
theorem t_211_57 : e_Sn 211 57 (e_un n_211_57) := u_gotoT (s_goto (off := (-57)) hq_211 (by decide +kernel) rfl : e_Sn 211 57 (o_goto 0)) u_atT
noncomputable def n_211_56 : e_Y := u_pop n_211_57
theorem t_211_56 : e_Sn 211 56 (e_un n_211_56) := u_popT (s_pop hq_211 (by decide +kernel) rfl : e_Sn 211 56 (o_pop 57)) t_211_57
noncomputable def n_211_53 : e_Y := u_callV 19 234 4 23 2 n_234_0 n_211_56
theorem t_211_53 : e_Sn 211 53 (e_un n_211_53) := u_callVT rfl (s_callV (ci := 19) (C := er_19) (T := et_19) (N := 3) (index := 95) hq_211 ho_211 hy_234 hp_234 hc_234 hi_234 hd_234 (List.mem_of_getElem? (i := 2253) (by decide +kernel)) hs_234 (List.mem_of_getElem? (i := 2019) (by decide +kernel)) rfl (by decide +kernel) rfl : e_Sn 211 53 (o_callV (e_s1 19 234 4) 2 56)) t_234_0 t_211_56
noncomputable def n_211_52 : e_Y := u_bin a_isub (u_old (o_isub 53) n_211_53) n_211_53
theorem t_211_52 : e_Sn 211 52 (e_un n_211_52) := u_isubT (s_isub hq_211 (by decide +kernel) rfl : e_Sn 211 52 (o_isub 53)) t_211_53
noncomputable def n_211_51 : e_Y := u_push (.inl 2147483649) n_211_52
theorem t_211_51 : e_Sn 211 51 (e_un n_211_51) := u_pushT (s_iconst (n := (1)) hq_211 (by decide +kernel) rfl ⟨by decide +kernel, by decide +kernel⟩ : e_Sn 211 51 (o_push (.inl 2147483649) 52)) t_211_52
noncomputable def n_211_48 : e_Y := u_callV 19 236 1 20 1 n_236_0 n_211_51
theorem t_211_48 : e_Sn 211 48 (e_un n_211_48) := u_callVT rfl (s_callV (ci := 19) (C := er_19) (T := et_19) (N := 3) (index := 38) hq_211 ho_211 hy_236 hp_236 hc_236 hi_236 hd_236 (List.mem_of_getElem? (i := 2181) (by decide +kernel)) hs_236 (List.mem_of_getElem? (i := 2002) (by decide +kernel)) rfl (by decide +kernel) rfl : e_Sn 211 48 (o_callV (e_s1 19 236 1) 1 51)) t_236_0 t_211_51
noncomputable def n_211_45 : e_Y := u_getf 16 1 (u_old (o_getf (e_f1 16 1) 48) n_211_48) n_211_48
theorem t_211_45 : e_Sn 211 45 (e_un n_211_45) := u_getfT (s_getf (C := er_16) (T := et_16) (N := 5) (ref := "PlateroomprinterModel$Run") (index := 12) (ci := 16) (k := 1) hq_211 ho_211 ⟨rfl, by decide, ei_16, (List.mem_of_getElem? (i := 2151) (by decide +kernel)), .inl rfl⟩ (by decide +kernel) rfl : e_Sn 211 45 (o_getf (e_f1 16 1) 48)) t_211_48
noncomputable def n_211_44 : e_Y := u_ld f_okA f_l0 n_211_45
theorem t_211_44 : e_Sn 211 44 (e_un n_211_44) := u_ldAT f_l0_eq (s_aload (i := .aload_n 0) (len := 1) hq_211 (by decide +kernel) rfl (.inr ⟨0, rfl, rfl, rfl⟩) : e_Sn 211 44 (o_load e_okR 0 45)) t_211_45
noncomputable def n_211_41 : e_Y := u_getf 16 1 (u_old (o_getf (e_f1 16 1) 44) n_211_44) n_211_44
theorem t_211_41 : e_Sn 211 41 (e_un n_211_41) := u_getfT (s_getf (C := er_16) (T := et_16) (N := 5) (ref := "PlateroomprinterModel$Run") (index := 12) (ci := 16) (k := 1) hq_211 ho_211 ⟨rfl, by decide, ei_16, (List.mem_of_getElem? (i := 2151) (by decide +kernel)), .inl rfl⟩ (by decide +kernel) rfl : e_Sn 211 41 (o_getf (e_f1 16 1) 44)) t_211_44
noncomputable def n_211_40 : e_Y := u_ld f_okA f_l0 n_211_41
theorem t_211_40 : e_Sn 211 40 (e_un n_211_40) := u_ldAT f_l0_eq (s_aload (i := .aload_n 0) (len := 1) hq_211 (by decide +kernel) rfl (.inr ⟨0, rfl, rfl, rfl⟩) : e_Sn 211 40 (o_load e_okR 0 41)) t_211_41
noncomputable def n_211_29 : e_Y := u_if y_ne0 (u_old2 (o_ifeq 40 32) 40 n_211_40 (u_at 32)) n_211_40 (u_at 32)
theorem t_211_29 : e_Sn 211 29 (e_un n_211_29) := u_ifeqT rfl (s_ifeq (off := (11)) hq_211 (by decide +kernel) rfl rfl : e_Sn 211 29 (o_ifeq 40 32)) t_211_40 u_atT
noncomputable def n_211_26 : e_Y := u_getf 15 2 (u_old (o_getf (e_f1 15 2) 29) n_211_29) n_211_29
theorem t_211_26 : e_Sn 211 26 (e_un n_211_26) := u_getfT (s_getf (C := er_15) (T := et_15) (N := 8) (ref := "PlateroomprinterModel$Row") (index := 87) (ci := 15) (k := 2) hq_211 ho_211 ⟨rfl, by decide, ei_15, (List.mem_of_getElem? (i := 2126) (by decide +kernel)), .inl rfl⟩ (by decide +kernel) rfl : e_Sn 211 26 (o_getf (e_f1 15 2) 29)) t_211_29
noncomputable def n_211_25 : e_Y := u_ld f_okA f_l1 n_211_26
theorem t_211_25 : e_Sn 211 25 (e_un n_211_25) := u_ldAT f_l1_eq (s_aload (i := .aload_n 1) (len := 1) hq_211 (by decide +kernel) rfl (.inr ⟨1, rfl, rfl, rfl⟩) : e_Sn 211 25 (o_load e_okR 1 26)) t_211_26
noncomputable def n_211_24 : e_Y := u_st f_okA f_s1 n_211_25
theorem t_211_24 : e_Sn 211 24 (e_un n_211_24) := u_stAT (fun _ _ _ => f_s1_eq) (s_astore (i := .astore_n 1) (len := 1) hq_211 (by decide +kernel) rfl (.inr ⟨1, rfl, rfl, rfl⟩) : e_Sn 211 24 (o_store e_okR 1 25)) t_211_25
noncomputable def n_211_21 : e_Y := u_callV 16 212 1 20 1 n_212_0 n_211_24
theorem t_211_21 : e_Sn 211 21 (e_un n_211_21) := u_callVT rfl (s_callV (ci := 16) (C := er_16) (T := et_16) (N := 5) (index := 53) hq_211 ho_211 hy_212 hp_212 hc_212 hi_212 hd_212 (List.mem_of_getElem? (i := 2177) (by decide +kernel)) hs_212 (List.mem_of_getElem? (i := 77) (by decide +kernel)) rfl (by decide +kernel) rfl : e_Sn 211 21 (o_callV (e_s1 16 212 1) 1 24)) t_212_0 t_211_24
noncomputable def n_211_20 : e_Y := u_ld f_okA f_l0 n_211_21
theorem t_211_20 : e_Sn 211 20 (e_un n_211_20) := u_ldAT f_l0_eq (s_aload (i := .aload_n 0) (len := 1) hq_211 (by decide +kernel) rfl (.inr ⟨0, rfl, rfl, rfl⟩) : e_Sn 211 20 (o_load e_okR 0 21)) t_211_21
noncomputable def n_211_17 : e_Y := u_if y_ne0 (u_old2 (o_ifeq 60 20) 60 n_211_60 n_211_20) n_211_60 n_211_20
theorem t_211_17 : e_Sn 211 17 (e_un n_211_17) := u_ifeqT rfl (s_ifeq (off := (43)) hq_211 (by decide +kernel) rfl rfl : e_Sn 211 17 (o_ifeq 60 20)) t_211_60 t_211_20
noncomputable def n_211_14 : e_Y := u_callV 15 208 1 20 1 n_208_0 n_211_17
theorem t_211_14 : e_Sn 211 14 (e_un n_211_14) := u_callVT rfl (s_callV (ci := 15) (C := er_15) (T := et_15) (N := 8) (index := 84) hq_211 ho_211 hy_208 hp_208 hc_208 hi_208 hd_208 (List.mem_of_getElem? (i := 2183) (by decide +kernel)) hs_208 (List.mem_of_getElem? (i := 2185) (by decide +kernel)) rfl (by decide +kernel) rfl : e_Sn 211 14 (o_callV (e_s1 15 208 1) 1 17)) t_208_0 t_211_17
noncomputable def n_211_11 : e_Y := u_callV 16 212 1 20 1 n_212_0 n_211_14
theorem t_211_11 : e_Sn 211 11 (e_un n_211_11) := u_callVT rfl (s_callV (ci := 16) (C := er_16) (T := et_16) (N := 5) (index := 53) hq_211 ho_211 hy_212 hp_212 hc_212 hi_212 hd_212 (List.mem_of_getElem? (i := 2177) (by decide +kernel)) hs_212 (List.mem_of_getElem? (i := 77) (by decide +kernel)) rfl (by decide +kernel) rfl : e_Sn 211 11 (o_callV (e_s1 16 212 1) 1 14)) t_212_0 t_211_14
noncomputable def n_211_10 : e_Y := u_ld f_okA f_l0 n_211_11
theorem t_211_10 : e_Sn 211 10 (e_un n_211_10) := u_ldAT f_l0_eq (s_aload (i := .aload_n 0) (len := 1) hq_211 (by decide +kernel) rfl (.inr ⟨0, rfl, rfl, rfl⟩) : e_Sn 211 10 (o_load e_okR 0 11)) t_211_11
noncomputable def n_211_7 : e_Y := u_if y_ne0 (u_old2 (o_ifeq 10 60) 10 n_211_10 n_211_60) n_211_10 n_211_60
theorem t_211_7 : e_Sn 211 7 (e_un n_211_7) := u_ifeqT rfl (s_ifne (off := (53)) hq_211 (by decide +kernel) rfl rfl : e_Sn 211 7 (o_ifeq 10 60)) t_211_10 t_211_60
noncomputable def n_211_4 : e_Y := u_callV 19 232 1 20 1 n_232_0 n_211_7
theorem t_211_4 : e_Sn 211 4 (e_un n_211_4) := u_callVT rfl (s_callV (ci := 19) (C := er_19) (T := et_19) (N := 3) (index := 81) hq_211 ho_211 hy_232 hp_232 hc_232 hi_232 hd_232 (List.mem_of_getElem? (i := 2176) (by decide +kernel)) hs_232 (List.mem_of_getElem? (i := 2015) (by decide +kernel)) rfl (by decide +kernel) rfl : e_Sn 211 4 (o_callV (e_s1 19 232 1) 1 7)) t_232_0 t_211_7
noncomputable def n_211_1 : e_Y := u_getf 16 1 (u_old (o_getf (e_f1 16 1) 4) n_211_4) n_211_4
theorem t_211_1 : e_Sn 211 1 (e_un n_211_1) := u_getfT (s_getf (C := er_16) (T := et_16) (N := 5) (ref := "PlateroomprinterModel$Run") (index := 12) (ci := 16) (k := 1) hq_211 ho_211 ⟨rfl, by decide, ei_16, (List.mem_of_getElem? (i := 2151) (by decide +kernel)), .inl rfl⟩ (by decide +kernel) rfl : e_Sn 211 1 (o_getf (e_f1 16 1) 4)) t_211_4
noncomputable def n_211_0 : e_Y := u_ld f_okA f_l0 n_211_1
theorem t_211_0 : e_Sn 211 0 (e_un n_211_0) := u_ldAT f_l0_eq (s_aload (i := .aload_n 0) (len := 1) hq_211 (by decide +kernel) rfl (.inr ⟨0, rfl, rfl, rfl⟩) : e_Sn 211 0 (o_load e_okR 0 1)) t_211_1
noncomputable def e_tb_211 : e_X := (e_lf 0 (e_un n_211_0))
theorem e_tk_211 : e_Tb 211 e_tb_211 := (e_lfT t_211_0)
theorem hq_210 : (e_ml[210]?).map (·.2.1) = some prog_20_method_3_code := rfl
theorem ho_210 : (e_ml[210]?).map (·.1.cls) = some "PlateroomprinterModel$Run" := rfl
theorem hr_210 : (e_ml[210]?).map (·.2.2.2) = some none := rfl
noncomputable def n_210_173 : e_Y := u_tab (o_retv)
theorem t_210_173 : e_Sn 210 173 (e_un n_210_173) := u_tabT (s_vret hq_210 hr_210 (by decide +kernel) : e_Sn 210 173 (o_retv))
noncomputable def n_210_170 : e_Y := u_old (o_putf (e_f1 13 10) e_okI 173) n_210_173
theorem t_210_170 : e_Sn 210 170 (e_un n_210_170) := u_oldT (s_putf (ty0 := ey_13) (ok := e_okI) (C := er_13) (T := et_13) (N := 13) (ref := "PlateroomprinterModel$Machine") (index := 78) (ci := 13) (k := 10) hq_210 ho_210 ⟨rfl, by decide, ei_13, (List.mem_of_getElem? (i := 1921) (by decide +kernel)), .inl rfl⟩ eo_13 en_13 e_oksI (.inl rfl) (by decide +kernel) rfl : e_Sn 210 170 (o_putf (e_f1 13 10) e_okI 173)) t_210_173 (e_cg_putf (e_f1 13 10) e_okI)
noncomputable def n_210_167 : e_Y := u_getf 16 2 (u_old (o_getf (e_f1 16 2) 170) n_210_170) n_210_170
theorem t_210_167 : e_Sn 210 167 (e_un n_210_167) := u_getfT (s_getf (C := er_16) (T := et_16) (N := 5) (ref := "PlateroomprinterModel$Run") (index := 57) (ci := 16) (k := 2) hq_210 ho_210 ⟨rfl, by decide, ei_16, (List.mem_of_getElem? (i := 2152) (by decide +kernel)), .inl rfl⟩ (by decide +kernel) rfl : e_Sn 210 167 (o_getf (e_f1 16 2) 170)) t_210_170
noncomputable def n_210_166 : e_Y := u_ld f_okA f_l0 n_210_167
theorem t_210_166 : e_Sn 210 166 (e_un n_210_166) := u_ldAT f_l0_eq (s_aload (i := .aload_n 0) (len := 1) hq_210 (by decide +kernel) rfl (.inr ⟨0, rfl, rfl, rfl⟩) : e_Sn 210 166 (o_load e_okR 0 167)) t_210_167
noncomputable def n_210_163 : e_Y := u_getf 16 0 (u_old (o_getf (e_f1 16 0) 166) n_210_166) n_210_166
theorem t_210_163 : e_Sn 210 163 (e_un n_210_163) := u_getfT (s_getf (C := er_16) (T := et_16) (N := 5) (ref := "PlateroomprinterModel$Run") (index := 25) (ci := 16) (k := 0) hq_210 ho_210 ⟨rfl, by decide, ei_16, (List.mem_of_getElem? (i := 2150) (by decide +kernel)), .inl rfl⟩ (by decide +kernel) rfl : e_Sn 210 163 (o_getf (e_f1 16 0) 166)) t_210_166
noncomputable def n_210_162 : e_Y := u_ld f_okA f_l0 n_210_163
theorem t_210_162 : e_Sn 210 162 (e_un n_210_162) := u_ldAT f_l0_eq (s_aload (i := .aload_n 0) (len := 1) hq_210 (by decide +kernel) rfl (.inr ⟨0, rfl, rfl, rfl⟩) : e_Sn 210 162 (o_load e_okR 0 163)) t_210_163
noncomputable def n_210_159 : e_Y := u_old (o_putf (e_f1 13 9) e_okI 162) n_210_162
theorem t_210_159 : e_Sn 210 159 (e_un n_210_159) := u_oldT (s_putf (ty0 := ey_13) (ok := e_okI) (C := er_13) (T := et_13) (N := 13) (ref := "PlateroomprinterModel$Machine") (index := 77) (ci := 13) (k := 9) hq_210 ho_210 ⟨rfl, by decide, ei_13, (List.mem_of_getElem? (i := 1918) (by decide +kernel)), .inl rfl⟩ eo_13 en_13 e_oksI (.inl rfl) (by decide +kernel) rfl : e_Sn 210 159 (o_putf (e_f1 13 9) e_okI 162)) t_210_162 (e_cg_putf (e_f1 13 9) e_okI)
noncomputable def n_210_158 : e_Y := u_bin a_iadd (u_old (o_iadd 159) n_210_159) n_210_159
theorem t_210_158 : e_Sn 210 158 (e_un n_210_158) := u_iaddT (s_iadd hq_210 (by decide +kernel) rfl : e_Sn 210 158 (o_iadd 159)) t_210_159
noncomputable def n_210_155 : e_Y := u_getf 16 2 (u_old (o_getf (e_f1 16 2) 158) n_210_158) n_210_158
theorem t_210_155 : e_Sn 210 155 (e_un n_210_155) := u_getfT (s_getf (C := er_16) (T := et_16) (N := 5) (ref := "PlateroomprinterModel$Run") (index := 57) (ci := 16) (k := 2) hq_210 ho_210 ⟨rfl, by decide, ei_16, (List.mem_of_getElem? (i := 2152) (by decide +kernel)), .inl rfl⟩ (by decide +kernel) rfl : e_Sn 210 155 (o_getf (e_f1 16 2) 158)) t_210_158
noncomputable def n_210_154 : e_Y := u_ld f_okA f_l0 n_210_155
theorem t_210_154 : e_Sn 210 154 (e_un n_210_154) := u_ldAT f_l0_eq (s_aload (i := .aload_n 0) (len := 1) hq_210 (by decide +kernel) rfl (.inr ⟨0, rfl, rfl, rfl⟩) : e_Sn 210 154 (o_load e_okR 0 155)) t_210_155
noncomputable def n_210_151 : e_Y := u_getf 13 9 (u_old (o_getf (e_f1 13 9) 154) n_210_154) n_210_154
theorem t_210_151 : e_Sn 210 151 (e_un n_210_151) := u_getfT (s_getf (C := er_13) (T := et_13) (N := 13) (ref := "PlateroomprinterModel$Machine") (index := 77) (ci := 13) (k := 9) hq_210 ho_210 ⟨rfl, by decide, ei_13, (List.mem_of_getElem? (i := 1918) (by decide +kernel)), .inl rfl⟩ (by decide +kernel) rfl : e_Sn 210 151 (o_getf (e_f1 13 9) 154)) t_210_154
noncomputable def n_210_150 : e_Y := u_old (o_dup 151) n_210_151
theorem t_210_150 : e_Sn 210 150 (e_un n_210_150) := u_oldT (s_dup hq_210 (by decide +kernel) rfl : e_Sn 210 150 (o_dup 151)) t_210_151 e_cg_dup
noncomputable def n_210_147 : e_Y := u_getf 16 0 (u_old (o_getf (e_f1 16 0) 150) n_210_150) n_210_150
theorem t_210_147 : e_Sn 210 147 (e_un n_210_147) := u_getfT (s_getf (C := er_16) (T := et_16) (N := 5) (ref := "PlateroomprinterModel$Run") (index := 25) (ci := 16) (k := 0) hq_210 ho_210 ⟨rfl, by decide, ei_16, (List.mem_of_getElem? (i := 2150) (by decide +kernel)), .inl rfl⟩ (by decide +kernel) rfl : e_Sn 210 147 (o_getf (e_f1 16 0) 150)) t_210_150
noncomputable def n_210_146 : e_Y := u_ld f_okA f_l0 n_210_147
theorem t_210_146 : e_Sn 210 146 (e_un n_210_146) := u_ldAT f_l0_eq (s_aload (i := .aload_n 0) (len := 1) hq_210 (by decide +kernel) rfl (.inr ⟨0, rfl, rfl, rfl⟩) : e_Sn 210 146 (o_load e_okR 0 147)) t_210_147
noncomputable def n_210_4 : e_Y := u_if y_ne0 (u_old2 (o_ifeq 146 7) 146 n_210_146 (u_at 7)) n_210_146 (u_at 7)
theorem t_210_4 : e_Sn 210 4 (e_un n_210_4) := u_ifeqT rfl (s_ifeq (off := (142)) hq_210 (by decide +kernel) rfl rfl : e_Sn 210 4 (o_ifeq 146 7)) t_210_146 u_atT
noncomputable def n_210_1 : e_Y := u_callV 16 211 2 21 1 n_211_0 n_210_4
theorem t_210_1 : e_Sn 210 1 (e_un n_210_1) := u_callVT rfl (s_callV (ci := 16) (C := er_16) (T := et_16) (N := 5) (index := 46) hq_210 ho_210 hy_211 hp_211 hc_211 hi_211 hd_211 (List.mem_of_getElem? (i := 2172) (by decide +kernel)) hs_211 (List.mem_of_getElem? (i := 76) (by decide +kernel)) rfl (by decide +kernel) rfl : e_Sn 210 1 (o_callV (e_s1 16 211 2) 1 4)) t_211_0 t_210_4
noncomputable def n_210_0 : e_Y := u_ld f_okA f_l0 n_210_1
theorem t_210_0 : e_Sn 210 0 (e_un n_210_0) := u_ldAT f_l0_eq (s_aload (i := .aload_n 0) (len := 1) hq_210 (by decide +kernel) rfl (.inr ⟨0, rfl, rfl, rfl⟩) : e_Sn 210 0 (o_load e_okR 0 1)) t_210_1
noncomputable def e_tb_210 : e_X := (e_lf 0 (e_un n_210_0))
theorem e_tk_210 : e_Tb 210 e_tb_210 := (e_lfT t_210_0)
theorem hq_191 : (e_ml[191]?).map (·.2.1) = some prog_14_method_31_code := rfl
theorem ho_191 : (e_ml[191]?).map (·.1.cls) = some "PlateroomprinterModel" := rfl
theorem hr_191 : (e_ml[191]?).map (·.2.2.2) = some (some .int) := rfl
noncomputable def n_191_74 : e_Y := u_retI
theorem t_191_74 : e_Sn 191 74 (e_un n_191_74) := u_retIT (s_iret hq_191 hr_191 (by decide +kernel) : e_Sn 191 74 (o_ret e_okI))
noncomputable def n_191_71 : e_Y := u_callV 12 150 4 23 4 n_150_0 n_191_74
theorem t_191_71 : e_Sn 191 71 (e_un n_191_71) := u_callVT rfl (s_callV (ci := 12) (C := er_12) (T := et_12) (N := 5) (index := 177) hq_191 ho_191 hy_150 hp_150 hc_150 hi_150 hd_150 (List.mem_of_getElem? (i := 2891) (by decide +kernel)) hs_150 (List.mem_of_getElem? (i := 121) (by decide +kernel)) rfl (by decide +kernel) rfl : e_Sn 191 71 (o_callV (e_s1 12 150 4) 4 74)) t_150_0 t_191_74
noncomputable def n_191_70 : e_Y := u_push (.inl 2147483647) n_191_71
theorem t_191_70 : e_Sn 191 70 (e_un n_191_70) := u_pushT (s_iconst (n := (-1)) hq_191 (by decide +kernel) rfl ⟨by decide +kernel, by decide +kernel⟩ : e_Sn 191 70 (o_push (.inl 2147483647) 71)) t_191_71
noncomputable def n_191_69 : e_Y := u_push (.inl 2147483647) n_191_70
theorem t_191_69 : e_Sn 191 69 (e_un n_191_69) := u_pushT (s_iconst (n := (-1)) hq_191 (by decide +kernel) rfl ⟨by decide +kernel, by decide +kernel⟩ : e_Sn 191 69 (o_push (.inl 2147483647) 70)) t_191_70
noncomputable def n_191_68 : e_Y := u_push (.inl 2147483648) n_191_69
theorem t_191_68 : e_Sn 191 68 (e_un n_191_68) := u_pushT (s_iconst (n := (0)) hq_191 (by decide +kernel) rfl ⟨by decide +kernel, by decide +kernel⟩ : e_Sn 191 68 (o_push (.inl 2147483648) 69)) t_191_69
noncomputable def n_191_67 : e_Y := u_ld f_okA f_l0 n_191_68
theorem t_191_67 : e_Sn 191 67 (e_un n_191_67) := u_ldAT f_l0_eq (s_aload (i := .aload_n 0) (len := 1) hq_191 (by decide +kernel) rfl (.inr ⟨0, rfl, rfl, rfl⟩) : e_Sn 191 67 (o_load e_okR 0 68)) t_191_68
noncomputable def n_191_64 : e_Y := u_old (o_putf (e_f1 12 2) e_okR 67) n_191_67
theorem t_191_64 : e_Sn 191 64 (e_un n_191_64) := u_oldT (s_putf (ty0 := ey_12) (ok := e_okR) (C := er_12) (T := et_12) (N := 5) (ref := "PlateroomprinterModel") (index := 19) (ci := 12) (k := 2) hq_191 ho_191 ⟨rfl, by decide, ei_12, (List.mem_of_getElem? (i := 1960) (by decide +kernel)), .inl rfl⟩ eo_12 en_12 e_oksR (.inl rfl) (by decide +kernel) rfl : e_Sn 191 64 (o_putf (e_f1 12 2) e_okR 67)) t_191_67 (e_cg_putf (e_f1 12 2) e_okR)
noncomputable def n_191_61 : e_Y := u_tab (o_callI 224 1 1 64)
theorem t_191_61 : e_Sn 191 61 (e_un n_191_61) := u_tabT (s_callI (index := 18) hq_191 ho_191 hy_224 hp_224 hc_224 hi_224 hd_224 (List.mem_of_getElem? (i := 1957) (by decide +kernel)) rfl rfl hs_224 (by decide +kernel) rfl : e_Sn 191 61 (o_callI 224 1 1 64))
noncomputable def n_191_60 : e_Y := u_old (o_dup 61) n_191_61
theorem t_191_60 : e_Sn 191 60 (e_un n_191_60) := u_oldT (s_dup hq_191 (by decide +kernel) rfl : e_Sn 191 60 (o_dup 61)) t_191_61 e_cg_dup
noncomputable def n_191_57 : e_Y := u_tab (o_new 19 3 ef_19 60)
theorem t_191_57 : e_Sn 191 57 (e_un n_191_57) := u_tabT (s_new (index := 16) (ci := 19) (N := 3) (C := er_19) (T := et_19) (ty0 := ey_19) (fv := eg_19) hq_191 ho_191 rfl ei_19 eo_19 (List.mem_of_getElem? (i := 1956) (by decide +kernel)) (List.mem_of_getElem? (i := 1751) (by decide +kernel)) (List.mem_of_getElem? (i := 155) (by decide +kernel)) eh_19 rfl (e_newrel ek_19) (by decide +kernel) rfl : e_Sn 191 57 (o_new 19 3 ef_19 60))
noncomputable def n_191_56 : e_Y := u_ld f_okA f_l0 n_191_57
theorem t_191_56 : e_Sn 191 56 (e_un n_191_56) := u_ldAT f_l0_eq (s_aload (i := .aload_n 0) (len := 1) hq_191 (by decide +kernel) rfl (.inr ⟨0, rfl, rfl, rfl⟩) : e_Sn 191 56 (o_load e_okR 0 57)) t_191_57
noncomputable def n_191_53 : e_Y := u_old (o_putf (e_f1 12 1) e_okR 56) n_191_56
theorem t_191_53 : e_Sn 191 53 (e_un n_191_53) := u_oldT (s_putf (ty0 := ey_12) (ok := e_okR) (C := er_12) (T := et_12) (N := 5) (ref := "PlateroomprinterModel") (index := 10) (ci := 12) (k := 1) hq_191 ho_191 ⟨rfl, by decide, ei_12, (List.mem_of_getElem? (i := 1959) (by decide +kernel)), .inl rfl⟩ eo_12 en_12 e_oksR (.inl rfl) (by decide +kernel) rfl : e_Sn 191 53 (o_putf (e_f1 12 1) e_okR 56)) t_191_56 (e_cg_putf (e_f1 12 1) e_okR)
noncomputable def n_191_52 : e_Y := u_ld f_okA f_l1 n_191_53
theorem t_191_52 : e_Sn 191 52 (e_un n_191_52) := u_ldAT f_l1_eq (s_aload (i := .aload_n 1) (len := 1) hq_191 (by decide +kernel) rfl (.inr ⟨1, rfl, rfl, rfl⟩) : e_Sn 191 52 (o_load e_okR 1 53)) t_191_53
noncomputable def n_191_51 : e_Y := u_ld f_okA f_l0 n_191_52
theorem t_191_51 : e_Sn 191 51 (e_un n_191_51) := u_ldAT f_l0_eq (s_aload (i := .aload_n 0) (len := 1) hq_191 (by decide +kernel) rfl (.inr ⟨0, rfl, rfl, rfl⟩) : e_Sn 191 51 (o_load e_okR 0 52)) t_191_52
noncomputable def n_191_30 : e_Y := n_191_51
theorem t_191_30 : e_Sn 191 30 (e_un n_191_30) := u_gotoT (s_goto (off := (21)) hq_191 (by decide +kernel) rfl : e_Sn 191 30 (o_goto 51)) t_191_51
noncomputable def n_191_27 : e_Y := u_callV 16 210 2 21 1 n_210_0 n_191_30
theorem t_191_27 : e_Sn 191 27 (e_un n_191_27) := u_callVT rfl (s_callV (ci := 16) (C := er_16) (T := et_16) (N := 5) (index := 166) hq_191 ho_191 hy_210 hp_210 hc_210 hi_210 hd_210 (List.mem_of_getElem? (i := 2168) (by decide +kernel)) hs_210 (List.mem_of_getElem? (i := 2170) (by decide +kernel)) rfl (by decide +kernel) rfl : e_Sn 191 27 (o_callV (e_s1 16 210 2) 1 30)) t_210_0 t_191_30
noncomputable def n_191_26 : e_Y := u_ld f_okA f_l2 n_191_27
theorem t_191_26 : e_Sn 191 26 (e_un n_191_26) := u_ldAT f_l2_eq (s_aload (i := .aload_n 2) (len := 1) hq_191 (by decide +kernel) rfl (.inr ⟨2, rfl, rfl, rfl⟩) : e_Sn 191 26 (o_load e_okR 2 27)) t_191_27
noncomputable def n_191_25 : e_Y := u_st f_okA f_s2 n_191_26
theorem t_191_25 : e_Sn 191 25 (e_un n_191_25) := u_stAT (fun _ _ _ => f_s2_eq) (s_astore (i := .astore_n 2) (len := 1) hq_191 (by decide +kernel) rfl (.inr ⟨2, rfl, rfl, rfl⟩) : e_Sn 191 25 (o_store e_okR 2 26)) t_191_26
noncomputable def n_191_22 : e_Y := u_tab (o_callI 209 3 3 25)
theorem t_191_22 : e_Sn 191 22 (e_un n_191_22) := u_tabT (s_callI (index := 163) hq_191 ho_191 hy_209 hp_209 hc_209 hi_209 hd_209 (List.mem_of_getElem? (i := 2110) (by decide +kernel)) rfl rfl hs_209 (by decide +kernel) rfl : e_Sn 191 22 (o_callI 209 3 3 25))
noncomputable def n_191_19 : e_Y := u_getf 12 2 (u_old (o_getf (e_f1 12 2) 22) n_191_22) n_191_22
theorem t_191_19 : e_Sn 191 19 (e_un n_191_19) := u_getfT (s_getf (C := er_12) (T := et_12) (N := 5) (ref := "PlateroomprinterModel") (index := 19) (ci := 12) (k := 2) hq_191 ho_191 ⟨rfl, by decide, ei_12, (List.mem_of_getElem? (i := 1960) (by decide +kernel)), .inl rfl⟩ (by decide +kernel) rfl : e_Sn 191 19 (o_getf (e_f1 12 2) 22)) t_191_22
noncomputable def n_191_18 : e_Y := u_ld f_okA f_l0 n_191_19
theorem t_191_18 : e_Sn 191 18 (e_un n_191_18) := u_ldAT f_l0_eq (s_aload (i := .aload_n 0) (len := 1) hq_191 (by decide +kernel) rfl (.inr ⟨0, rfl, rfl, rfl⟩) : e_Sn 191 18 (o_load e_okR 0 19)) t_191_19
noncomputable def n_191_17 : e_Y := u_ld f_okA f_l1 n_191_18
theorem t_191_17 : e_Sn 191 17 (e_un n_191_17) := u_ldAT f_l1_eq (s_aload (i := .aload_n 1) (len := 1) hq_191 (by decide +kernel) rfl (.inr ⟨1, rfl, rfl, rfl⟩) : e_Sn 191 17 (o_load e_okR 1 18)) t_191_18
noncomputable def n_191_16 : e_Y := u_old (o_dup 17) n_191_17
theorem t_191_16 : e_Sn 191 16 (e_un n_191_16) := u_oldT (s_dup hq_191 (by decide +kernel) rfl : e_Sn 191 16 (o_dup 17)) t_191_17 e_cg_dup
noncomputable def n_191_13 : e_Y := u_tab (o_new 16 5 ef_16 16)
theorem t_191_13 : e_Sn 191 13 (e_un n_191_13) := u_tabT (s_new (index := 161) (ci := 16) (N := 5) (C := er_16) (T := et_16) (ty0 := ey_16) (fv := eg_16) hq_191 ho_191 rfl ei_16 eo_16 (List.mem_of_getElem? (i := 2108) (by decide +kernel)) (List.mem_of_getElem? (i := 2109) (by decide +kernel)) (List.mem_of_getElem? (i := 170) (by decide +kernel)) eh_16 rfl (e_newrel ek_16) (by decide +kernel) rfl : e_Sn 191 13 (o_new 16 5 ef_16 16))
noncomputable def n_191_12 : e_Y := u_st f_okA f_s1 n_191_13
theorem t_191_12 : e_Sn 191 12 (e_un n_191_12) := u_stAT (fun _ _ _ => f_s1_eq) (s_astore (i := .astore_n 1) (len := 1) hq_191 (by decide +kernel) rfl (.inr ⟨1, rfl, rfl, rfl⟩) : e_Sn 191 12 (o_store e_okR 1 13)) t_191_13
noncomputable def n_191_9 : e_Y := u_callV 13 205 3 22 1 n_205_0 n_191_12
theorem t_191_9 : e_Sn 191 9 (e_un n_191_9) := u_callVT rfl (s_callV (ci := 13) (C := er_13) (T := et_13) (N := 13) (index := 158) hq_191 ho_191 hy_205 hp_205 hc_205 hi_205 hd_205 (List.mem_of_getElem? (i := 2042) (by decide +kernel)) hs_205 (List.mem_of_getElem? (i := 2044) (by decide +kernel)) rfl (by decide +kernel) rfl : e_Sn 191 9 (o_callV (e_s1 13 205 3) 1 12)) t_205_0 t_191_12
noncomputable def n_191_6 : e_Y := u_getf 12 1 (u_old (o_getf (e_f1 12 1) 9) n_191_9) n_191_9
theorem t_191_6 : e_Sn 191 6 (e_un n_191_6) := u_getfT (s_getf (C := er_12) (T := et_12) (N := 5) (ref := "PlateroomprinterModel") (index := 10) (ci := 12) (k := 1) hq_191 ho_191 ⟨rfl, by decide, ei_12, (List.mem_of_getElem? (i := 1959) (by decide +kernel)), .inl rfl⟩ (by decide +kernel) rfl : e_Sn 191 6 (o_getf (e_f1 12 1) 9)) t_191_9
noncomputable def n_191_5 : e_Y := u_ld f_okA f_l0 n_191_6
theorem t_191_5 : e_Sn 191 5 (e_un n_191_5) := u_ldAT f_l0_eq (s_aload (i := .aload_n 0) (len := 1) hq_191 (by decide +kernel) rfl (.inr ⟨0, rfl, rfl, rfl⟩) : e_Sn 191 5 (o_load e_okR 0 6)) t_191_6
noncomputable def n_191_2 : e_Y := u_old (o_putf (e_f1 12 0) e_okI 5) n_191_5
theorem t_191_2 : e_Sn 191 2 (e_un n_191_2) := u_oldT (s_putf (ty0 := ey_12) (ok := e_okI) (C := er_12) (T := et_12) (N := 5) (ref := "PlateroomprinterModel") (index := 124) (ci := 12) (k := 0) hq_191 ho_191 ⟨rfl, by decide, ei_12, (List.mem_of_getElem? (i := 1958) (by decide +kernel)), .inl rfl⟩ eo_12 en_12 e_oksI (.inl rfl) (by decide +kernel) rfl : e_Sn 191 2 (o_putf (e_f1 12 0) e_okI 5)) t_191_5 (e_cg_putf (e_f1 12 0) e_okI)
noncomputable def n_191_1 : e_Y := u_push (.inl 2147483648) n_191_2
theorem t_191_1 : e_Sn 191 1 (e_un n_191_1) := u_pushT (s_iconst (n := (0)) hq_191 (by decide +kernel) rfl ⟨by decide +kernel, by decide +kernel⟩ : e_Sn 191 1 (o_push (.inl 2147483648) 2)) t_191_2
noncomputable def n_191_0 : e_Y := u_ld f_okA f_l0 n_191_1
theorem t_191_0 : e_Sn 191 0 (e_un n_191_0) := u_ldAT f_l0_eq (s_aload (i := .aload_n 0) (len := 1) hq_191 (by decide +kernel) rfl (.inr ⟨0, rfl, rfl, rfl⟩) : e_Sn 191 0 (o_load e_okR 0 1)) t_191_1
noncomputable def e_tb_191 : e_X := (e_br 25 (e_br 16 (e_lf 0 (e_un n_191_0)) (e_lf 16 (e_un n_191_16))) (e_br 60 (e_lf 25 (e_un n_191_25)) (e_br 64 (e_lf 60 (e_un n_191_60)) (e_lf 64 (e_un n_191_64)))))
theorem e_tk_191 : e_Tb 191 e_tb_191 := (e_brT (e_brT (e_lfT t_191_0) (e_lfT t_191_16)) (e_brT (e_lfT t_191_25) (e_brT (e_lfT t_191_60) (e_lfT t_191_64))))
theorem hq_216 : (e_ml[216]?).map (·.2.1) = some prog_33_method_27_code := rfl
theorem ho_216 : (e_ml[216]?).map (·.1.cls) = some "java/lang/Integer" := rfl
theorem hr_216 : (e_ml[216]?).map (·.2.2.2) = some (some .int) := rfl
noncomputable def n_216_4 : e_Y := u_retI
theorem t_216_4 : e_Sn 216 4 (e_un n_216_4) := u_retIT (s_iret hq_216 hr_216 (by decide +kernel) : e_Sn 216 4 (o_ret e_okI))
noncomputable def n_216_1 : e_Y := u_tab (o_getB 4)
theorem t_216_1 : e_Sn 216 1 (e_un n_216_1) := u_tabT (s_getB (index := 205) hq_216 ho_216 (List.mem_of_getElem? (i := 3113) (by decide +kernel)) (by decide +kernel) rfl : e_Sn 216 1 (o_getB 4))
noncomputable def n_216_0 : e_Y := u_ld f_okA f_l0 n_216_1
theorem t_216_0 : e_Sn 216 0 (e_un n_216_0) := u_ldAT f_l0_eq (s_aload (i := .aload_n 0) (len := 1) hq_216 (by decide +kernel) rfl (.inr ⟨0, rfl, rfl, rfl⟩) : e_Sn 216 0 (o_load e_okR 0 1)) t_216_1
noncomputable def e_tb_216 : e_X := (e_br 4 (e_lf 0 (e_un n_216_0)) (e_lf 4 (e_un n_216_4)))
theorem e_tk_216 : e_Tb 216 e_tb_216 := (e_brT (e_lfT t_216_0) (e_lfT t_216_4))
theorem hq_192 : (e_ml[192]?).map (·.2.1) = some prog_14_method_78_code := rfl
theorem ho_192 : (e_ml[192]?).map (·.1.cls) = some "PlateroomprinterModel" := rfl
theorem hr_192 : (e_ml[192]?).map (·.2.2.2) = some (some .int) := rfl
noncomputable def n_192_59 : e_Y := u_retI
theorem t_192_59 : e_Sn 192 59 (e_un n_192_59) := u_retIT (s_iret hq_192 hr_192 (by decide +kernel) : e_Sn 192 59 (o_ret e_okI))
noncomputable def n_192_56 : e_Y := u_tab (o_callB 216 1 1 59)
theorem t_192_56 : e_Sn 192 56 (e_un n_192_56) := u_tabT (s_callB (C := "java/lang/Integer") (index := 361) hq_192 ho_192 hy_216 hp_216 hc_216 hi_216 hd_216 (List.mem_of_getElem? (i := 3122) (by decide +kernel)) hs_216 (List.mem_of_getElem? (i := 3124) (by decide +kernel)) rfl (by decide +kernel) rfl : e_Sn 192 56 (o_callB 216 1 1 59))
noncomputable def n_192_53 : e_Y := u_tab (o_castB 56)
theorem t_192_53 : e_Sn 192 53 (e_un n_192_53) := u_tabT (s_castB (index := 352) (ci := 18) hq_192 ho_192 (List.mem_of_getElem? (i := 3121) (by decide +kernel)) rfl (by decide +kernel) rfl : e_Sn 192 53 (o_castB 56))
noncomputable def n_192_50 : e_Y := u_callV 19 229 2 21 2 n_229_0 n_192_53
theorem t_192_50 : e_Sn 192 50 (e_un n_192_50) := u_callVT rfl (s_callV (ci := 19) (C := er_19) (T := et_19) (N := 3) (index := 78) hq_192 ho_192 hy_229 hp_229 hc_229 hi_229 hd_229 (List.mem_of_getElem? (i := 2066) (by decide +kernel)) hs_229 (List.mem_of_getElem? (i := 2051) (by decide +kernel)) rfl (by decide +kernel) rfl : e_Sn 192 50 (o_callV (e_s1 19 229 2) 2 53)) t_229_0 t_192_53
noncomputable def n_192_49 : e_Y := u_ld f_okI f_l2 n_192_50
theorem t_192_49 : e_Sn 192 49 (e_un n_192_49) := u_ldIT f_l2_eq (s_iload (i := .iload_n 2) (len := 1) hq_192 (by decide +kernel) rfl (.inr ⟨2, rfl, rfl, rfl⟩) : e_Sn 192 49 (o_load e_okI 2 50)) t_192_50
noncomputable def n_192_46 : e_Y := u_callV 12 194 6 25 2 n_194_0 n_192_49
theorem t_192_46 : e_Sn 192 46 (e_un n_192_46) := u_callVT rfl (s_callV (ci := 12) (C := er_12) (T := et_12) (N := 5) (index := 357) hq_192 ho_192 hy_194 hp_194 hc_194 hi_194 hd_194 (List.mem_of_getElem? (i := 3093) (by decide +kernel)) hs_194 (List.mem_of_getElem? (i := 134) (by decide +kernel)) rfl (by decide +kernel) rfl : e_Sn 192 46 (o_callV (e_s1 12 194 6) 2 49)) t_194_0 t_192_49
noncomputable def n_192_45 : e_Y := u_ld f_okI f_l1 n_192_46
theorem t_192_45 : e_Sn 192 45 (e_un n_192_45) := u_ldIT f_l1_eq (s_iload (i := .iload_n 1) (len := 1) hq_192 (by decide +kernel) rfl (.inr ⟨1, rfl, rfl, rfl⟩) : e_Sn 192 45 (o_load e_okI 1 46)) t_192_46
noncomputable def n_192_44 : e_Y := u_ld f_okA f_l0 n_192_45
theorem t_192_44 : e_Sn 192 44 (e_un n_192_44) := u_ldAT f_l0_eq (s_aload (i := .aload_n 0) (len := 1) hq_192 (by decide +kernel) rfl (.inr ⟨0, rfl, rfl, rfl⟩) : e_Sn 192 44 (o_load e_okR 0 45)) t_192_45
noncomputable def n_192_41 : e_Y := n_192_59
theorem t_192_41 : e_Sn 192 41 (e_un n_192_41) := u_gotoT (s_goto (off := (18)) hq_192 (by decide +kernel) rfl : e_Sn 192 41 (o_goto 59)) t_192_59
noncomputable def n_192_40 : e_Y := u_push (.inl 2147483648) n_192_41
theorem t_192_40 : e_Sn 192 40 (e_un n_192_40) := u_pushT (s_iconst (n := (0)) hq_192 (by decide +kernel) rfl ⟨by decide +kernel, by decide +kernel⟩ : e_Sn 192 40 (o_push (.inl 2147483648) 41)) t_192_41
noncomputable def n_192_37 : e_Y := u_if y_ne0 (u_old2 (o_ifeq 44 40) 44 n_192_44 n_192_40) n_192_44 n_192_40
theorem t_192_37 : e_Sn 192 37 (e_un n_192_37) := u_ifeqT rfl (s_ifeq (off := (7)) hq_192 (by decide +kernel) rfl rfl : e_Sn 192 37 (o_ifeq 44 40)) t_192_44 t_192_40
noncomputable def n_192_34 : e_Y := u_callV 12 195 3 22 3 n_195_0 n_192_37
theorem t_192_34 : e_Sn 192 34 (e_un n_192_34) := u_callVT rfl (s_callV (ci := 12) (C := er_12) (T := et_12) (N := 5) (index := 148) hq_192 ho_192 hy_195 hp_195 hc_195 hi_195 hd_195 (List.mem_of_getElem? (i := 1992) (by decide +kernel)) hs_195 (List.mem_of_getElem? (i := 73) (by decide +kernel)) rfl (by decide +kernel) rfl : e_Sn 192 34 (o_callV (e_s1 12 195 3) 3 37)) t_195_0 t_192_37
noncomputable def n_192_33 : e_Y := u_push (.inl 2147483649) n_192_34
theorem t_192_33 : e_Sn 192 33 (e_un n_192_33) := u_pushT (s_iconst (n := (1)) hq_192 (by decide +kernel) rfl ⟨by decide +kernel, by decide +kernel⟩ : e_Sn 192 33 (o_push (.inl 2147483649) 34)) t_192_34
noncomputable def n_192_32 : e_Y := u_push (.inl 2147483648) n_192_33
theorem t_192_32 : e_Sn 192 32 (e_un n_192_32) := u_pushT (s_iconst (n := (0)) hq_192 (by decide +kernel) rfl ⟨by decide +kernel, by decide +kernel⟩ : e_Sn 192 32 (o_push (.inl 2147483648) 33)) t_192_33
noncomputable def n_192_29 : e_Y := n_192_33
theorem t_192_29 : e_Sn 192 29 (e_un n_192_29) := u_gotoT (s_goto (off := (4)) hq_192 (by decide +kernel) rfl : e_Sn 192 29 (o_goto 33)) t_192_33
noncomputable def n_192_28 : e_Y := u_push (.inl 2147483649) n_192_29
theorem t_192_28 : e_Sn 192 28 (e_un n_192_28) := u_pushT (s_iconst (n := (1)) hq_192 (by decide +kernel) rfl ⟨by decide +kernel, by decide +kernel⟩ : e_Sn 192 28 (o_push (.inl 2147483649) 29)) t_192_29
noncomputable def n_192_25 : e_Y := u_if y_ne0 (u_old2 (o_ifeq 28 32) 28 n_192_28 n_192_32) n_192_28 n_192_32
theorem t_192_25 : e_Sn 192 25 (e_un n_192_25) := u_ifeqT rfl (s_ifne (off := (7)) hq_192 (by decide +kernel) rfl rfl : e_Sn 192 25 (o_ifeq 28 32)) t_192_28 t_192_32
noncomputable def n_192_22 : e_Y := u_callS 162 6 25 3 n_162_0 n_192_25
theorem t_192_22 : e_Sn 192 22 (e_un n_192_22) := u_callST rfl (s_callS (index := 136) hq_192 ho_192 hy_162 hp_162 hc_162 hi_162 hd_162 (List.mem_of_getElem? (i := 1987) (by decide +kernel)) hs_162 (by decide +kernel) rfl : e_Sn 192 22 (o_callS 162 6 3 25)) t_162_0 t_192_25
noncomputable def n_192_21 : e_Y := u_old (o_i2l 22) n_192_22
theorem t_192_21 : e_Sn 192 21 (e_un n_192_21) := u_oldT (s_i2l hq_192 (by decide +kernel) rfl : e_Sn 192 21 (o_i2l 22)) t_192_22 e_congr_i2l
noncomputable def n_192_20 : e_Y := u_bin a_isub (u_old (o_isub 21) n_192_21) n_192_21
theorem t_192_20 : e_Sn 192 20 (e_un n_192_20) := u_isubT (s_isub hq_192 (by decide +kernel) rfl : e_Sn 192 20 (o_isub 21)) t_192_21
noncomputable def n_192_19 : e_Y := u_push (.inl 2147483649) n_192_20
theorem t_192_19 : e_Sn 192 19 (e_un n_192_19) := u_pushT (s_iconst (n := (1)) hq_192 (by decide +kernel) rfl ⟨by decide +kernel, by decide +kernel⟩ : e_Sn 192 19 (o_push (.inl 2147483649) 20)) t_192_20
noncomputable def n_192_16 : e_Y := u_callV 19 236 1 20 1 n_236_0 n_192_19
theorem t_192_16 : e_Sn 192 16 (e_un n_192_16) := u_callVT rfl (s_callV (ci := 19) (C := er_19) (T := et_19) (N := 3) (index := 74) hq_192 ho_192 hy_236 hp_236 hc_236 hi_236 hd_236 (List.mem_of_getElem? (i := 2000) (by decide +kernel)) hs_236 (List.mem_of_getElem? (i := 2002) (by decide +kernel)) rfl (by decide +kernel) rfl : e_Sn 192 16 (o_callV (e_s1 19 236 1) 1 19)) t_236_0 t_192_19
noncomputable def n_192_13 : e_Y := u_callV 12 194 6 25 2 n_194_0 n_192_16
theorem t_192_13 : e_Sn 192 13 (e_un n_192_13) := u_callVT rfl (s_callV (ci := 12) (C := er_12) (T := et_12) (N := 5) (index := 357) hq_192 ho_192 hy_194 hp_194 hc_194 hi_194 hd_194 (List.mem_of_getElem? (i := 3093) (by decide +kernel)) hs_194 (List.mem_of_getElem? (i := 134) (by decide +kernel)) rfl (by decide +kernel) rfl : e_Sn 192 13 (o_callV (e_s1 12 194 6) 2 16)) t_194_0 t_192_16
noncomputable def n_192_12 : e_Y := u_ld f_okI f_l1 n_192_13
theorem t_192_12 : e_Sn 192 12 (e_un n_192_12) := u_ldIT f_l1_eq (s_iload (i := .iload_n 1) (len := 1) hq_192 (by decide +kernel) rfl (.inr ⟨1, rfl, rfl, rfl⟩) : e_Sn 192 12 (o_load e_okI 1 13)) t_192_13
noncomputable def n_192_11 : e_Y := u_ld f_okA f_l0 n_192_12
theorem t_192_11 : e_Sn 192 11 (e_un n_192_11) := u_ldAT f_l0_eq (s_aload (i := .aload_n 0) (len := 1) hq_192 (by decide +kernel) rfl (.inr ⟨0, rfl, rfl, rfl⟩) : e_Sn 192 11 (o_load e_okR 0 12)) t_192_12
noncomputable def n_192_10 : e_Y := u_push (e_L 9223372036854775808) n_192_11
theorem t_192_10 : e_Sn 192 10 (e_un n_192_10) := u_pushT (s_lconst (n := 0) hq_192 (by decide +kernel) rfl ⟨by decide +kernel, by decide +kernel⟩ : e_Sn 192 10 (o_push (e_L 9223372036854775808) 11)) t_192_11
noncomputable def n_192_9 : e_Y := u_old (o_i2l 10) n_192_10
theorem t_192_9 : e_Sn 192 9 (e_un n_192_9) := u_oldT (s_i2l hq_192 (by decide +kernel) rfl : e_Sn 192 9 (o_i2l 10)) t_192_10 e_congr_i2l
noncomputable def n_192_8 : e_Y := u_ld f_okI f_l2 n_192_9
theorem t_192_8 : e_Sn 192 8 (e_un n_192_8) := u_ldIT f_l2_eq (s_iload (i := .iload_n 2) (len := 1) hq_192 (by decide +kernel) rfl (.inr ⟨2, rfl, rfl, rfl⟩) : e_Sn 192 8 (o_load e_okI 2 9)) t_192_9
noncomputable def n_192_5 : e_Y := u_if y_ne0 (u_old2 (o_ifeq 8 28) 8 n_192_8 n_192_28) n_192_8 n_192_28
theorem t_192_5 : e_Sn 192 5 (e_un n_192_5) := u_ifeqT rfl (s_ifne (off := (23)) hq_192 (by decide +kernel) rfl rfl : e_Sn 192 5 (o_ifeq 8 28)) t_192_8 t_192_28
noncomputable def n_192_2 : e_Y := u_callS 164 1 20 1 n_164_0 n_192_5
theorem t_192_2 : e_Sn 192 2 (e_un n_192_2) := u_callST rfl (s_callS (index := 333) hq_192 ho_192 hy_164 hp_164 hc_164 hi_164 hd_164 (List.mem_of_getElem? (i := 3067) (by decide +kernel)) hs_164 (by decide +kernel) rfl : e_Sn 192 2 (o_callS 164 1 1 5)) t_164_0 t_192_5
noncomputable def n_192_1 : e_Y := u_ld f_okI f_l1 n_192_2
theorem t_192_1 : e_Sn 192 1 (e_un n_192_1) := u_ldIT f_l1_eq (s_iload (i := .iload_n 1) (len := 1) hq_192 (by decide +kernel) rfl (.inr ⟨1, rfl, rfl, rfl⟩) : e_Sn 192 1 (o_load e_okI 1 2)) t_192_2
noncomputable def n_192_0 : e_Y := u_ld f_okA f_l0 n_192_1
theorem t_192_0 : e_Sn 192 0 (e_un n_192_0) := u_ldAT f_l0_eq (s_aload (i := .aload_n 0) (len := 1) hq_192 (by decide +kernel) rfl (.inr ⟨0, rfl, rfl, rfl⟩) : e_Sn 192 0 (o_load e_okR 0 1)) t_192_1
noncomputable def e_tb_192 : e_X := (e_br 56 (e_lf 0 (e_un n_192_0)) (e_br 59 (e_lf 56 (e_un n_192_56)) (e_lf 59 (e_un n_192_59))))
theorem e_tk_192 : e_Tb 192 e_tb_192 := (e_brT (e_lfT t_192_0) (e_brT (e_lfT t_192_56) (e_lfT t_192_59)))
theorem hq_193 : (e_ml[193]?).map (·.2.1) = some prog_14_method_77_code := rfl
theorem ho_193 : (e_ml[193]?).map (·.1.cls) = some "PlateroomprinterModel" := rfl
theorem hr_193 : (e_ml[193]?).map (·.2.2.2) = some (some .int) := rfl
noncomputable def n_193_24 : e_Y := u_retI
theorem t_193_24 : e_Sn 193 24 (e_un n_193_24) := u_retIT (s_iret hq_193 hr_193 (by decide +kernel) : e_Sn 193 24 (o_ret e_okI))
noncomputable def n_193_21 : e_Y := u_callV 19 236 1 20 1 n_236_0 n_193_24
theorem t_193_21 : e_Sn 193 21 (e_un n_193_21) := u_callVT rfl (s_callV (ci := 19) (C := er_19) (T := et_19) (N := 3) (index := 74) hq_193 ho_193 hy_236 hp_236 hc_236 hi_236 hd_236 (List.mem_of_getElem? (i := 2000) (by decide +kernel)) hs_236 (List.mem_of_getElem? (i := 2002) (by decide +kernel)) rfl (by decide +kernel) rfl : e_Sn 193 21 (o_callV (e_s1 19 236 1) 1 24)) t_236_0 t_193_24
noncomputable def n_193_18 : e_Y := u_callV 12 194 6 25 2 n_194_0 n_193_21
theorem t_193_18 : e_Sn 193 18 (e_un n_193_18) := u_callVT rfl (s_callV (ci := 12) (C := er_12) (T := et_12) (N := 5) (index := 357) hq_193 ho_193 hy_194 hp_194 hc_194 hi_194 hd_194 (List.mem_of_getElem? (i := 3093) (by decide +kernel)) hs_194 (List.mem_of_getElem? (i := 134) (by decide +kernel)) rfl (by decide +kernel) rfl : e_Sn 193 18 (o_callV (e_s1 12 194 6) 2 21)) t_194_0 t_193_21
noncomputable def n_193_17 : e_Y := u_ld f_okI f_l1 n_193_18
theorem t_193_17 : e_Sn 193 17 (e_un n_193_17) := u_ldIT f_l1_eq (s_iload (i := .iload_n 1) (len := 1) hq_193 (by decide +kernel) rfl (.inr ⟨1, rfl, rfl, rfl⟩) : e_Sn 193 17 (o_load e_okI 1 18)) t_193_18
noncomputable def n_193_16 : e_Y := u_ld f_okA f_l0 n_193_17
theorem t_193_16 : e_Sn 193 16 (e_un n_193_16) := u_ldAT f_l0_eq (s_aload (i := .aload_n 0) (len := 1) hq_193 (by decide +kernel) rfl (.inr ⟨0, rfl, rfl, rfl⟩) : e_Sn 193 16 (o_load e_okR 0 17)) t_193_17
noncomputable def n_193_13 : e_Y := n_193_24
theorem t_193_13 : e_Sn 193 13 (e_un n_193_13) := u_gotoT (s_goto (off := (11)) hq_193 (by decide +kernel) rfl : e_Sn 193 13 (o_goto 24)) t_193_24
noncomputable def n_193_12 : e_Y := u_push (.inl 2147483648) n_193_13
theorem t_193_12 : e_Sn 193 12 (e_un n_193_12) := u_pushT (s_iconst (n := (0)) hq_193 (by decide +kernel) rfl ⟨by decide +kernel, by decide +kernel⟩ : e_Sn 193 12 (o_push (.inl 2147483648) 13)) t_193_13
noncomputable def n_193_9 : e_Y := u_if y_ne0 (u_old2 (o_ifeq 16 12) 16 n_193_16 n_193_12) n_193_16 n_193_12
theorem t_193_9 : e_Sn 193 9 (e_un n_193_9) := u_ifeqT rfl (s_ifeq (off := (7)) hq_193 (by decide +kernel) rfl rfl : e_Sn 193 9 (o_ifeq 16 12)) t_193_16 t_193_12
noncomputable def n_193_6 : e_Y := u_callV 12 195 3 22 3 n_195_0 n_193_9
theorem t_193_6 : e_Sn 193 6 (e_un n_193_6) := u_callVT rfl (s_callV (ci := 12) (C := er_12) (T := et_12) (N := 5) (index := 148) hq_193 ho_193 hy_195 hp_195 hc_195 hi_195 hd_195 (List.mem_of_getElem? (i := 1992) (by decide +kernel)) hs_195 (List.mem_of_getElem? (i := 73) (by decide +kernel)) rfl (by decide +kernel) rfl : e_Sn 193 6 (o_callV (e_s1 12 195 3) 3 9)) t_195_0 t_193_9
noncomputable def n_193_5 : e_Y := u_push (.inl 2147483649) n_193_6
theorem t_193_5 : e_Sn 193 5 (e_un n_193_5) := u_pushT (s_iconst (n := (1)) hq_193 (by decide +kernel) rfl ⟨by decide +kernel, by decide +kernel⟩ : e_Sn 193 5 (o_push (.inl 2147483649) 6)) t_193_6
noncomputable def n_193_2 : e_Y := u_callS 164 1 20 1 n_164_0 n_193_5
theorem t_193_2 : e_Sn 193 2 (e_un n_193_2) := u_callST rfl (s_callS (index := 333) hq_193 ho_193 hy_164 hp_164 hc_164 hi_164 hd_164 (List.mem_of_getElem? (i := 3067) (by decide +kernel)) hs_164 (by decide +kernel) rfl : e_Sn 193 2 (o_callS 164 1 1 5)) t_164_0 t_193_5
noncomputable def n_193_1 : e_Y := u_ld f_okI f_l1 n_193_2
theorem t_193_1 : e_Sn 193 1 (e_un n_193_1) := u_ldIT f_l1_eq (s_iload (i := .iload_n 1) (len := 1) hq_193 (by decide +kernel) rfl (.inr ⟨1, rfl, rfl, rfl⟩) : e_Sn 193 1 (o_load e_okI 1 2)) t_193_2
noncomputable def n_193_0 : e_Y := u_ld f_okA f_l0 n_193_1
theorem t_193_0 : e_Sn 193 0 (e_un n_193_0) := u_ldAT f_l0_eq (s_aload (i := .aload_n 0) (len := 1) hq_193 (by decide +kernel) rfl (.inr ⟨0, rfl, rfl, rfl⟩) : e_Sn 193 0 (o_load e_okR 0 1)) t_193_1
noncomputable def e_tb_193 : e_X := (e_lf 0 (e_un n_193_0))
theorem e_tk_193 : e_Tb 193 e_tb_193 := (e_lfT t_193_0)
theorem hq_196 : (e_ml[196]?).map (·.2.1) = some prog_14_method_45_code := rfl
theorem ho_196 : (e_ml[196]?).map (·.1.cls) = some "PlateroomprinterModel" := rfl
theorem hr_196 : (e_ml[196]?).map (·.2.2.2) = some (some .int) := rfl
noncomputable def n_196_34 : e_Y := u_retI
theorem t_196_34 : e_Sn 196 34 (e_un n_196_34) := u_retIT (s_iret hq_196 hr_196 (by decide +kernel) : e_Sn 196 34 (o_ret e_okI))
noncomputable def n_196_31 : e_Y := u_callV 12 197 3 22 2 n_197_0 n_196_34
theorem t_196_31 : e_Sn 196 31 (e_un n_196_31) := u_callVT rfl (s_callV (ci := 12) (C := er_12) (T := et_12) (N := 5) (index := 249) hq_196 ho_196 hy_197 hp_197 hc_197 hi_197 hd_197 (List.mem_of_getElem? (i := 2954) (by decide +kernel)) hs_197 (List.mem_of_getElem? (i := 124) (by decide +kernel)) rfl (by decide +kernel) rfl : e_Sn 196 31 (o_callV (e_s1 12 197 3) 2 34)) t_197_0 t_196_34
noncomputable def n_196_30 : e_Y := u_ld f_okI f_l1 n_196_31
theorem t_196_30 : e_Sn 196 30 (e_un n_196_30) := u_ldIT f_l1_eq (s_iload (i := .iload_n 1) (len := 1) hq_196 (by decide +kernel) rfl (.inr ⟨1, rfl, rfl, rfl⟩) : e_Sn 196 30 (o_load e_okI 1 31)) t_196_31
noncomputable def n_196_29 : e_Y := u_ld f_okA f_l0 n_196_30
theorem t_196_29 : e_Sn 196 29 (e_un n_196_29) := u_ldAT f_l0_eq (s_aload (i := .aload_n 0) (len := 1) hq_196 (by decide +kernel) rfl (.inr ⟨0, rfl, rfl, rfl⟩) : e_Sn 196 29 (o_load e_okR 0 30)) t_196_30
noncomputable def n_196_26 : e_Y := n_196_34
theorem t_196_26 : e_Sn 196 26 (e_un n_196_26) := u_gotoT (s_goto (off := (8)) hq_196 (by decide +kernel) rfl : e_Sn 196 26 (o_goto 34)) t_196_34
noncomputable def n_196_25 : e_Y := u_push (.inl 2147483648) n_196_26
theorem t_196_25 : e_Sn 196 25 (e_un n_196_25) := u_pushT (s_iconst (n := (0)) hq_196 (by decide +kernel) rfl ⟨by decide +kernel, by decide +kernel⟩ : e_Sn 196 25 (o_push (.inl 2147483648) 26)) t_196_26
noncomputable def n_196_22 : e_Y := u_if y_ne0 (u_old2 (o_ifeq 29 25) 29 n_196_29 n_196_25) n_196_29 n_196_25
theorem t_196_22 : e_Sn 196 22 (e_un n_196_22) := u_ifeqT rfl (s_ifeq (off := (7)) hq_196 (by decide +kernel) rfl rfl : e_Sn 196 22 (o_ifeq 29 25)) t_196_29 t_196_25
noncomputable def n_196_19 : e_Y := u_callV 12 195 3 22 3 n_195_0 n_196_22
theorem t_196_19 : e_Sn 196 19 (e_un n_196_19) := u_callVT rfl (s_callV (ci := 12) (C := er_12) (T := et_12) (N := 5) (index := 148) hq_196 ho_196 hy_195 hp_195 hc_195 hi_195 hd_195 (List.mem_of_getElem? (i := 1992) (by decide +kernel)) hs_195 (List.mem_of_getElem? (i := 73) (by decide +kernel)) rfl (by decide +kernel) rfl : e_Sn 196 19 (o_callV (e_s1 12 195 3) 3 22)) t_195_0 t_196_22
noncomputable def n_196_18 : e_Y := u_push (.inl 2147483649) n_196_19
theorem t_196_18 : e_Sn 196 18 (e_un n_196_18) := u_pushT (s_iconst (n := (1)) hq_196 (by decide +kernel) rfl ⟨by decide +kernel, by decide +kernel⟩ : e_Sn 196 18 (o_push (.inl 2147483649) 19)) t_196_19
noncomputable def n_196_17 : e_Y := u_push (.inl 2147483648) n_196_18
theorem t_196_17 : e_Sn 196 17 (e_un n_196_17) := u_pushT (s_iconst (n := (0)) hq_196 (by decide +kernel) rfl ⟨by decide +kernel, by decide +kernel⟩ : e_Sn 196 17 (o_push (.inl 2147483648) 18)) t_196_18
noncomputable def n_196_14 : e_Y := n_196_18
theorem t_196_14 : e_Sn 196 14 (e_un n_196_14) := u_gotoT (s_goto (off := (4)) hq_196 (by decide +kernel) rfl : e_Sn 196 14 (o_goto 18)) t_196_18
noncomputable def n_196_13 : e_Y := u_push (.inl 2147483649) n_196_14
theorem t_196_13 : e_Sn 196 13 (e_un n_196_13) := u_pushT (s_iconst (n := (1)) hq_196 (by decide +kernel) rfl ⟨by decide +kernel, by decide +kernel⟩ : e_Sn 196 13 (o_push (.inl 2147483649) 14)) t_196_14
noncomputable def n_196_10 : e_Y := u_if y_ne0 (u_old2 (o_ifeq 13 17) 13 n_196_13 n_196_17) n_196_13 n_196_17
theorem t_196_10 : e_Sn 196 10 (e_un n_196_10) := u_ifeqT rfl (s_ifne (off := (7)) hq_196 (by decide +kernel) rfl rfl : e_Sn 196 10 (o_ifeq 13 17)) t_196_13 t_196_17
noncomputable def n_196_7 : e_Y := u_callS 162 6 25 3 n_162_0 n_196_10
theorem t_196_7 : e_Sn 196 7 (e_un n_196_7) := u_callST rfl (s_callS (index := 136) hq_196 ho_196 hy_162 hp_162 hc_162 hi_162 hd_162 (List.mem_of_getElem? (i := 1987) (by decide +kernel)) hs_162 (by decide +kernel) rfl : e_Sn 196 7 (o_callS 162 6 3 10)) t_162_0 t_196_10
noncomputable def n_196_4 : e_Y := u_push (e_L 9223372036854775822) n_196_7
theorem t_196_4 : e_Sn 196 4 (e_un n_196_4) := u_pushT (s_ldc2 (index := 247) (v := (14)) hq_196 ho_196 (List.mem_of_getElem? (i := 2953) (by decide +kernel)) (by decide +kernel) rfl ⟨by decide +kernel, by decide +kernel⟩ : e_Sn 196 4 (o_push (e_L 9223372036854775822) 7)) t_196_7
noncomputable def n_196_3 : e_Y := u_push (e_L 9223372036854775808) n_196_4
theorem t_196_3 : e_Sn 196 3 (e_un n_196_3) := u_pushT (s_lconst (n := 0) hq_196 (by decide +kernel) rfl ⟨by decide +kernel, by decide +kernel⟩ : e_Sn 196 3 (o_push (e_L 9223372036854775808) 4)) t_196_4
noncomputable def n_196_2 : e_Y := u_old (o_i2l 3) n_196_3
theorem t_196_2 : e_Sn 196 2 (e_un n_196_2) := u_oldT (s_i2l hq_196 (by decide +kernel) rfl : e_Sn 196 2 (o_i2l 3)) t_196_3 e_congr_i2l
noncomputable def n_196_1 : e_Y := u_ld f_okI f_l1 n_196_2
theorem t_196_1 : e_Sn 196 1 (e_un n_196_1) := u_ldIT f_l1_eq (s_iload (i := .iload_n 1) (len := 1) hq_196 (by decide +kernel) rfl (.inr ⟨1, rfl, rfl, rfl⟩) : e_Sn 196 1 (o_load e_okI 1 2)) t_196_2
noncomputable def n_196_0 : e_Y := u_ld f_okA f_l0 n_196_1
theorem t_196_0 : e_Sn 196 0 (e_un n_196_0) := u_ldAT f_l0_eq (s_aload (i := .aload_n 0) (len := 1) hq_196 (by decide +kernel) rfl (.inr ⟨0, rfl, rfl, rfl⟩) : e_Sn 196 0 (o_load e_okR 0 1)) t_196_1
noncomputable def e_tb_196 : e_X := (e_lf 0 (e_un n_196_0))
theorem e_tk_196 : e_Tb 196 e_tb_196 := (e_lfT t_196_0)
theorem hq_198 : (e_ml[198]?).map (·.2.1) = some prog_14_method_27_code := rfl
theorem ho_198 : (e_ml[198]?).map (·.1.cls) = some "PlateroomprinterModel" := rfl
theorem hr_198 : (e_ml[198]?).map (·.2.2.2) = some (some .int) := rfl
noncomputable def n_198_139 : e_Y := u_retI
theorem t_198_139 : e_Sn 198 139 (e_un n_198_139) := u_retIT (s_iret hq_198 hr_198 (by decide +kernel) : e_Sn 198 139 (o_ret e_okI))
noncomputable def n_198_136 : e_Y := u_callV 19 236 1 20 1 n_236_0 n_198_139
theorem t_198_136 : e_Sn 198 136 (e_un n_198_136) := u_callVT rfl (s_callV (ci := 19) (C := er_19) (T := et_19) (N := 3) (index := 74) hq_198 ho_198 hy_236 hp_236 hc_236 hi_236 hd_236 (List.mem_of_getElem? (i := 2000) (by decide +kernel)) hs_236 (List.mem_of_getElem? (i := 2002) (by decide +kernel)) rfl (by decide +kernel) rfl : e_Sn 198 136 (o_callV (e_s1 19 236 1) 1 139)) t_236_0 t_198_139
noncomputable def n_198_133 : e_Y := u_getf 12 2 (u_old (o_getf (e_f1 12 2) 136) n_198_136) n_198_136
theorem t_198_133 : e_Sn 198 133 (e_un n_198_133) := u_getfT (s_getf (C := er_12) (T := et_12) (N := 5) (ref := "PlateroomprinterModel") (index := 19) (ci := 12) (k := 2) hq_198 ho_198 ⟨rfl, by decide, ei_12, (List.mem_of_getElem? (i := 1960) (by decide +kernel)), .inl rfl⟩ (by decide +kernel) rfl : e_Sn 198 133 (o_getf (e_f1 12 2) 136)) t_198_136
noncomputable def n_198_132 : e_Y := u_ld f_okA f_l0 n_198_133
theorem t_198_132 : e_Sn 198 132 (e_un n_198_132) := u_ldAT f_l0_eq (s_aload (i := .aload_n 0) (len := 1) hq_198 (by decide +kernel) rfl (.inr ⟨0, rfl, rfl, rfl⟩) : e_Sn 198 132 (o_load e_okR 0 133)) t_198_133
noncomputable def n_198_131 : e_Y := u_pop n_198_132
theorem t_198_131 : e_Sn 198 131 (e_un n_198_131) := u_popT (s_pop hq_198 (by decide +kernel) rfl : e_Sn 198 131 (o_pop 132)) t_198_132
noncomputable def n_198_128 : e_Y := u_callV 19 225 2 21 2 n_225_0 n_198_131
theorem t_198_128 : e_Sn 198 128 (e_un n_198_128) := u_callVT rfl (s_callV (ci := 19) (C := er_19) (T := et_19) (N := 3) (index := 88) hq_198 ho_198 hy_225 hp_225 hc_225 hi_225 hd_225 (List.mem_of_getElem? (i := 2004) (by decide +kernel)) hs_225 (List.mem_of_getElem? (i := 1822) (by decide +kernel)) rfl (by decide +kernel) rfl : e_Sn 198 128 (o_callV (e_s1 19 225 2) 2 131)) t_225_0 t_198_131
noncomputable def n_198_127 : e_Y := u_old (o_ast 0 e_okI 128) n_198_128
theorem t_198_127 : e_Sn 198 127 (e_un n_198_127) := u_oldT (s_iast hq_198 (by decide +kernel) rfl : e_Sn 198 127 (o_ast 0 e_okI 128)) t_198_128 (e_cg_ast 0 e_okI)
noncomputable def n_198_125 : e_Y := u_ld f_okI f_l6 n_198_127
theorem t_198_125 : e_Sn 198 125 (e_un n_198_125) := u_ldIT f_l6_eq (s_iload (i := .iload 6) (len := 2) hq_198 (by decide +kernel) rfl (.inl ⟨rfl, rfl⟩) : e_Sn 198 125 (o_load e_okI 6 127)) t_198_127
noncomputable def n_198_124 : e_Y := u_push (.inl 2147483649) n_198_125
theorem t_198_124 : e_Sn 198 124 (e_un n_198_124) := u_pushT (s_iconst (n := (1)) hq_198 (by decide +kernel) rfl ⟨by decide +kernel, by decide +kernel⟩ : e_Sn 198 124 (o_push (.inl 2147483649) 125)) t_198_125
noncomputable def n_198_123 : e_Y := u_old (o_dup 124) n_198_124
theorem t_198_123 : e_Sn 198 123 (e_un n_198_123) := u_oldT (s_dup hq_198 (by decide +kernel) rfl : e_Sn 198 123 (o_dup 124)) t_198_124 e_cg_dup
noncomputable def n_198_122 : e_Y := u_old (o_ast 0 e_okI 123) n_198_123
theorem t_198_122 : e_Sn 198 122 (e_un n_198_122) := u_oldT (s_iast hq_198 (by decide +kernel) rfl : e_Sn 198 122 (o_ast 0 e_okI 123)) t_198_123 (e_cg_ast 0 e_okI)
noncomputable def n_198_120 : e_Y := u_ld f_okI f_l5 n_198_122
theorem t_198_120 : e_Sn 198 120 (e_un n_198_120) := u_ldIT f_l5_eq (s_iload (i := .iload 5) (len := 2) hq_198 (by decide +kernel) rfl (.inl ⟨rfl, rfl⟩) : e_Sn 198 120 (o_load e_okI 5 122)) t_198_122
noncomputable def n_198_119 : e_Y := u_push (.inl 2147483648) n_198_120
theorem t_198_119 : e_Sn 198 119 (e_un n_198_119) := u_pushT (s_iconst (n := (0)) hq_198 (by decide +kernel) rfl ⟨by decide +kernel, by decide +kernel⟩ : e_Sn 198 119 (o_push (.inl 2147483648) 120)) t_198_120
noncomputable def n_198_118 : e_Y := u_old (o_dup 119) n_198_119
theorem t_198_118 : e_Sn 198 118 (e_un n_198_118) := u_oldT (s_dup hq_198 (by decide +kernel) rfl : e_Sn 198 118 (o_dup 119)) t_198_119 e_cg_dup
noncomputable def n_198_116 : e_Y := u_tab (o_newa 0 (e_I 2147483648) 118)
theorem t_198_116 : e_Sn 198 116 (e_un n_198_116) := u_tabT (s_newI (List.mem_of_getElem? (i := 215) (by decide +kernel)) hq_198 (by decide +kernel) rfl : e_Sn 198 116 (o_newa 0 (e_I 2147483648) 118))
noncomputable def n_198_115 : e_Y := u_push (.inl 2147483650) n_198_116
theorem t_198_115 : e_Sn 198 115 (e_un n_198_115) := u_pushT (s_iconst (n := (2)) hq_198 (by decide +kernel) rfl ⟨by decide +kernel, by decide +kernel⟩ : e_Sn 198 115 (o_push (.inl 2147483650) 116)) t_198_116
noncomputable def n_198_112 : e_Y := u_getf 12 2 (u_old (o_getf (e_f1 12 2) 115) n_198_115) n_198_115
theorem t_198_112 : e_Sn 198 112 (e_un n_198_112) := u_getfT (s_getf (C := er_12) (T := et_12) (N := 5) (ref := "PlateroomprinterModel") (index := 19) (ci := 12) (k := 2) hq_198 ho_198 ⟨rfl, by decide, ei_12, (List.mem_of_getElem? (i := 1960) (by decide +kernel)), .inl rfl⟩ (by decide +kernel) rfl : e_Sn 198 112 (o_getf (e_f1 12 2) 115)) t_198_115
noncomputable def n_198_111 : e_Y := u_ld f_okA f_l0 n_198_112
theorem t_198_111 : e_Sn 198 111 (e_un n_198_111) := u_ldAT f_l0_eq (s_aload (i := .aload_n 0) (len := 1) hq_198 (by decide +kernel) rfl (.inr ⟨0, rfl, rfl, rfl⟩) : e_Sn 198 111 (o_load e_okR 0 112)) t_198_112
noncomputable def n_198_110 : e_Y := u_pop n_198_111
theorem t_198_110 : e_Sn 198 110 (e_un n_198_110) := u_popT (s_pop hq_198 (by decide +kernel) rfl : e_Sn 198 110 (o_pop 111)) t_198_111
noncomputable def n_198_107 : e_Y := u_callV 19 225 2 21 2 n_225_0 n_198_110
theorem t_198_107 : e_Sn 198 107 (e_un n_198_107) := u_callVT rfl (s_callV (ci := 19) (C := er_19) (T := et_19) (N := 3) (index := 88) hq_198 ho_198 hy_225 hp_225 hc_225 hi_225 hd_225 (List.mem_of_getElem? (i := 2004) (by decide +kernel)) hs_225 (List.mem_of_getElem? (i := 1822) (by decide +kernel)) rfl (by decide +kernel) rfl : e_Sn 198 107 (o_callV (e_s1 19 225 2) 2 110)) t_225_0 t_198_110
noncomputable def n_198_106 : e_Y := u_old (o_ast 0 e_okI 107) n_198_107
theorem t_198_106 : e_Sn 198 106 (e_un n_198_106) := u_oldT (s_iast hq_198 (by decide +kernel) rfl : e_Sn 198 106 (o_ast 0 e_okI 107)) t_198_107 (e_cg_ast 0 e_okI)
noncomputable def n_198_104 : e_Y := u_ld f_okI f_l4 n_198_106
theorem t_198_104 : e_Sn 198 104 (e_un n_198_104) := u_ldIT f_l4_eq (s_iload (i := .iload 4) (len := 2) hq_198 (by decide +kernel) rfl (.inl ⟨rfl, rfl⟩) : e_Sn 198 104 (o_load e_okI 4 106)) t_198_106
noncomputable def n_198_103 : e_Y := u_push (.inl 2147483649) n_198_104
theorem t_198_103 : e_Sn 198 103 (e_un n_198_103) := u_pushT (s_iconst (n := (1)) hq_198 (by decide +kernel) rfl ⟨by decide +kernel, by decide +kernel⟩ : e_Sn 198 103 (o_push (.inl 2147483649) 104)) t_198_104
noncomputable def n_198_102 : e_Y := u_old (o_dup 103) n_198_103
theorem t_198_102 : e_Sn 198 102 (e_un n_198_102) := u_oldT (s_dup hq_198 (by decide +kernel) rfl : e_Sn 198 102 (o_dup 103)) t_198_103 e_cg_dup
noncomputable def n_198_101 : e_Y := u_old (o_ast 0 e_okI 102) n_198_102
theorem t_198_101 : e_Sn 198 101 (e_un n_198_101) := u_oldT (s_iast hq_198 (by decide +kernel) rfl : e_Sn 198 101 (o_ast 0 e_okI 102)) t_198_102 (e_cg_ast 0 e_okI)
noncomputable def n_198_100 : e_Y := u_ld f_okI f_l3 n_198_101
theorem t_198_100 : e_Sn 198 100 (e_un n_198_100) := u_ldIT f_l3_eq (s_iload (i := .iload_n 3) (len := 1) hq_198 (by decide +kernel) rfl (.inr ⟨3, rfl, rfl, rfl⟩) : e_Sn 198 100 (o_load e_okI 3 101)) t_198_101
noncomputable def n_198_99 : e_Y := u_push (.inl 2147483648) n_198_100
theorem t_198_99 : e_Sn 198 99 (e_un n_198_99) := u_pushT (s_iconst (n := (0)) hq_198 (by decide +kernel) rfl ⟨by decide +kernel, by decide +kernel⟩ : e_Sn 198 99 (o_push (.inl 2147483648) 100)) t_198_100
noncomputable def n_198_98 : e_Y := u_old (o_dup 99) n_198_99
theorem t_198_98 : e_Sn 198 98 (e_un n_198_98) := u_oldT (s_dup hq_198 (by decide +kernel) rfl : e_Sn 198 98 (o_dup 99)) t_198_99 e_cg_dup
noncomputable def n_198_96 : e_Y := u_tab (o_newa 0 (e_I 2147483648) 98)
theorem t_198_96 : e_Sn 198 96 (e_un n_198_96) := u_tabT (s_newI (List.mem_of_getElem? (i := 215) (by decide +kernel)) hq_198 (by decide +kernel) rfl : e_Sn 198 96 (o_newa 0 (e_I 2147483648) 98))
noncomputable def n_198_95 : e_Y := u_push (.inl 2147483650) n_198_96
theorem t_198_95 : e_Sn 198 95 (e_un n_198_95) := u_pushT (s_iconst (n := (2)) hq_198 (by decide +kernel) rfl ⟨by decide +kernel, by decide +kernel⟩ : e_Sn 198 95 (o_push (.inl 2147483650) 96)) t_198_96
noncomputable def n_198_92 : e_Y := u_getf 12 2 (u_old (o_getf (e_f1 12 2) 95) n_198_95) n_198_95
theorem t_198_92 : e_Sn 198 92 (e_un n_198_92) := u_getfT (s_getf (C := er_12) (T := et_12) (N := 5) (ref := "PlateroomprinterModel") (index := 19) (ci := 12) (k := 2) hq_198 ho_198 ⟨rfl, by decide, ei_12, (List.mem_of_getElem? (i := 1960) (by decide +kernel)), .inl rfl⟩ (by decide +kernel) rfl : e_Sn 198 92 (o_getf (e_f1 12 2) 95)) t_198_95
noncomputable def n_198_91 : e_Y := u_ld f_okA f_l0 n_198_92
theorem t_198_91 : e_Sn 198 91 (e_un n_198_91) := u_ldAT f_l0_eq (s_aload (i := .aload_n 0) (len := 1) hq_198 (by decide +kernel) rfl (.inr ⟨0, rfl, rfl, rfl⟩) : e_Sn 198 91 (o_load e_okR 0 92)) t_198_92
noncomputable def n_198_90 : e_Y := u_pop n_198_91
theorem t_198_90 : e_Sn 198 90 (e_un n_198_90) := u_popT (s_pop hq_198 (by decide +kernel) rfl : e_Sn 198 90 (o_pop 91)) t_198_91
noncomputable def n_198_87 : e_Y := u_callV 19 225 2 21 2 n_225_0 n_198_90
theorem t_198_87 : e_Sn 198 87 (e_un n_198_87) := u_callVT rfl (s_callV (ci := 19) (C := er_19) (T := et_19) (N := 3) (index := 88) hq_198 ho_198 hy_225 hp_225 hc_225 hi_225 hd_225 (List.mem_of_getElem? (i := 2004) (by decide +kernel)) hs_225 (List.mem_of_getElem? (i := 1822) (by decide +kernel)) rfl (by decide +kernel) rfl : e_Sn 198 87 (o_callV (e_s1 19 225 2) 2 90)) t_225_0 t_198_90
noncomputable def n_198_86 : e_Y := u_old (o_ast 0 e_okI 87) n_198_87
theorem t_198_86 : e_Sn 198 86 (e_un n_198_86) := u_oldT (s_iast hq_198 (by decide +kernel) rfl : e_Sn 198 86 (o_ast 0 e_okI 87)) t_198_87 (e_cg_ast 0 e_okI)
noncomputable def n_198_85 : e_Y := u_ld f_okI f_l2 n_198_86
theorem t_198_85 : e_Sn 198 85 (e_un n_198_85) := u_ldIT f_l2_eq (s_iload (i := .iload_n 2) (len := 1) hq_198 (by decide +kernel) rfl (.inr ⟨2, rfl, rfl, rfl⟩) : e_Sn 198 85 (o_load e_okI 2 86)) t_198_86
noncomputable def n_198_84 : e_Y := u_push (.inl 2147483649) n_198_85
theorem t_198_84 : e_Sn 198 84 (e_un n_198_84) := u_pushT (s_iconst (n := (1)) hq_198 (by decide +kernel) rfl ⟨by decide +kernel, by decide +kernel⟩ : e_Sn 198 84 (o_push (.inl 2147483649) 85)) t_198_85
noncomputable def n_198_83 : e_Y := u_old (o_dup 84) n_198_84
theorem t_198_83 : e_Sn 198 83 (e_un n_198_83) := u_oldT (s_dup hq_198 (by decide +kernel) rfl : e_Sn 198 83 (o_dup 84)) t_198_84 e_cg_dup
noncomputable def n_198_82 : e_Y := u_old (o_ast 0 e_okI 83) n_198_83
theorem t_198_82 : e_Sn 198 82 (e_un n_198_82) := u_oldT (s_iast hq_198 (by decide +kernel) rfl : e_Sn 198 82 (o_ast 0 e_okI 83)) t_198_83 (e_cg_ast 0 e_okI)
noncomputable def n_198_81 : e_Y := u_ld f_okI f_l1 n_198_82
theorem t_198_81 : e_Sn 198 81 (e_un n_198_81) := u_ldIT f_l1_eq (s_iload (i := .iload_n 1) (len := 1) hq_198 (by decide +kernel) rfl (.inr ⟨1, rfl, rfl, rfl⟩) : e_Sn 198 81 (o_load e_okI 1 82)) t_198_82
noncomputable def n_198_80 : e_Y := u_push (.inl 2147483648) n_198_81
theorem t_198_80 : e_Sn 198 80 (e_un n_198_80) := u_pushT (s_iconst (n := (0)) hq_198 (by decide +kernel) rfl ⟨by decide +kernel, by decide +kernel⟩ : e_Sn 198 80 (o_push (.inl 2147483648) 81)) t_198_81
noncomputable def n_198_79 : e_Y := u_old (o_dup 80) n_198_80
theorem t_198_79 : e_Sn 198 79 (e_un n_198_79) := u_oldT (s_dup hq_198 (by decide +kernel) rfl : e_Sn 198 79 (o_dup 80)) t_198_80 e_cg_dup
noncomputable def n_198_77 : e_Y := u_tab (o_newa 0 (e_I 2147483648) 79)
theorem t_198_77 : e_Sn 198 77 (e_un n_198_77) := u_tabT (s_newI (List.mem_of_getElem? (i := 215) (by decide +kernel)) hq_198 (by decide +kernel) rfl : e_Sn 198 77 (o_newa 0 (e_I 2147483648) 79))
noncomputable def n_198_76 : e_Y := u_push (.inl 2147483650) n_198_77
theorem t_198_76 : e_Sn 198 76 (e_un n_198_76) := u_pushT (s_iconst (n := (2)) hq_198 (by decide +kernel) rfl ⟨by decide +kernel, by decide +kernel⟩ : e_Sn 198 76 (o_push (.inl 2147483650) 77)) t_198_77
noncomputable def n_198_73 : e_Y := u_getf 12 2 (u_old (o_getf (e_f1 12 2) 76) n_198_76) n_198_76
theorem t_198_73 : e_Sn 198 73 (e_un n_198_73) := u_getfT (s_getf (C := er_12) (T := et_12) (N := 5) (ref := "PlateroomprinterModel") (index := 19) (ci := 12) (k := 2) hq_198 ho_198 ⟨rfl, by decide, ei_12, (List.mem_of_getElem? (i := 1960) (by decide +kernel)), .inl rfl⟩ (by decide +kernel) rfl : e_Sn 198 73 (o_getf (e_f1 12 2) 76)) t_198_76
noncomputable def n_198_72 : e_Y := u_ld f_okA f_l0 n_198_73
theorem t_198_72 : e_Sn 198 72 (e_un n_198_72) := u_ldAT f_l0_eq (s_aload (i := .aload_n 0) (len := 1) hq_198 (by decide +kernel) rfl (.inr ⟨0, rfl, rfl, rfl⟩) : e_Sn 198 72 (o_load e_okR 0 73)) t_198_73
noncomputable def n_198_71 : e_Y := u_retI
theorem t_198_71 : e_Sn 198 71 (e_un n_198_71) := u_retIT (s_iret hq_198 hr_198 (by decide +kernel) : e_Sn 198 71 (o_ret e_okI))
noncomputable def n_198_70 : e_Y := u_push (.inl 2147483648) n_198_71
theorem t_198_70 : e_Sn 198 70 (e_un n_198_70) := u_pushT (s_iconst (n := (0)) hq_198 (by decide +kernel) rfl ⟨by decide +kernel, by decide +kernel⟩ : e_Sn 198 70 (o_push (.inl 2147483648) 71)) t_198_71
noncomputable def n_198_67 : e_Y := u_if y_ne0 (u_old2 (o_ifeq 72 70) 72 n_198_72 n_198_70) n_198_72 n_198_70
theorem t_198_67 : e_Sn 198 67 (e_un n_198_67) := u_ifeqT rfl (s_ifeq (off := (5)) hq_198 (by decide +kernel) rfl rfl : e_Sn 198 67 (o_ifeq 72 70)) t_198_72 t_198_70
noncomputable def n_198_64 : e_Y := u_callV 12 187 3 22 3 n_187_0 n_198_67
theorem t_198_64 : e_Sn 198 64 (e_un n_198_64) := u_callVT rfl (s_callV (ci := 12) (C := er_12) (T := et_12) (N := 5) (index := 128) hq_198 ho_198 hy_187 hp_187 hc_187 hi_187 hd_187 (List.mem_of_getElem? (i := 1996) (by decide +kernel)) hs_187 (List.mem_of_getElem? (i := 74) (by decide +kernel)) rfl (by decide +kernel) rfl : e_Sn 198 64 (o_callV (e_s1 12 187 3) 3 67)) t_187_0 t_198_67
noncomputable def n_198_63 : e_Y := u_push (.inl 2147483650) n_198_64
theorem t_198_63 : e_Sn 198 63 (e_un n_198_63) := u_pushT (s_iconst (n := (2)) hq_198 (by decide +kernel) rfl ⟨by decide +kernel, by decide +kernel⟩ : e_Sn 198 63 (o_push (.inl 2147483650) 64)) t_198_64
noncomputable def n_198_62 : e_Y := u_push (.inl 2147483648) n_198_63
theorem t_198_62 : e_Sn 198 62 (e_un n_198_62) := u_pushT (s_iconst (n := (0)) hq_198 (by decide +kernel) rfl ⟨by decide +kernel, by decide +kernel⟩ : e_Sn 198 62 (o_push (.inl 2147483648) 63)) t_198_63
noncomputable def n_198_55 : e_Y := u_jmp y_le (u_old2 (o_cgt 58 62) 58 (u_at 58) n_198_62) (u_at 58) n_198_62
theorem t_198_55 : e_Sn 198 55 (e_un n_198_55) := u_cgtT rfl (s_cle (off := (7)) hq_198 (by decide +kernel) rfl rfl : e_Sn 198 55 (o_cgt 58 62)) u_atT t_198_62
noncomputable def n_198_52 : e_Y := u_push (.inl 2147484045) n_198_55
theorem t_198_52 : e_Sn 198 52 (e_un n_198_52) := u_pushT (s_sipush (n := (397)) hq_198 (by decide +kernel) rfl ⟨by decide +kernel, by decide +kernel⟩ : e_Sn 198 52 (o_push (.inl 2147484045) 55)) t_198_55
noncomputable def n_198_49 : e_Y := u_callV 19 236 1 20 1 n_236_0 n_198_52
theorem t_198_49 : e_Sn 198 49 (e_un n_198_49) := u_callVT rfl (s_callV (ci := 19) (C := er_19) (T := et_19) (N := 3) (index := 74) hq_198 ho_198 hy_236 hp_236 hc_236 hi_236 hd_236 (List.mem_of_getElem? (i := 2000) (by decide +kernel)) hs_236 (List.mem_of_getElem? (i := 2002) (by decide +kernel)) rfl (by decide +kernel) rfl : e_Sn 198 49 (o_callV (e_s1 19 236 1) 1 52)) t_236_0 t_198_52
noncomputable def n_198_46 : e_Y := u_getf 12 2 (u_old (o_getf (e_f1 12 2) 49) n_198_49) n_198_49
theorem t_198_46 : e_Sn 198 46 (e_un n_198_46) := u_getfT (s_getf (C := er_12) (T := et_12) (N := 5) (ref := "PlateroomprinterModel") (index := 19) (ci := 12) (k := 2) hq_198 ho_198 ⟨rfl, by decide, ei_12, (List.mem_of_getElem? (i := 1960) (by decide +kernel)), .inl rfl⟩ (by decide +kernel) rfl : e_Sn 198 46 (o_getf (e_f1 12 2) 49)) t_198_49
noncomputable def n_198_45 : e_Y := u_ld f_okA f_l0 n_198_46
theorem t_198_45 : e_Sn 198 45 (e_un n_198_45) := u_ldAT f_l0_eq (s_aload (i := .aload_n 0) (len := 1) hq_198 (by decide +kernel) rfl (.inr ⟨0, rfl, rfl, rfl⟩) : e_Sn 198 45 (o_load e_okR 0 46)) t_198_46
noncomputable def n_198_44 : e_Y := u_ld f_okA f_l0 n_198_45
theorem t_198_44 : e_Sn 198 44 (e_un n_198_44) := u_ldAT f_l0_eq (s_aload (i := .aload_n 0) (len := 1) hq_198 (by decide +kernel) rfl (.inr ⟨0, rfl, rfl, rfl⟩) : e_Sn 198 44 (o_load e_okR 0 45)) t_198_45
noncomputable def n_198_41 : e_Y := u_if y_ne0 (u_old2 (o_ifeq 44 70) 44 n_198_44 n_198_70) n_198_44 n_198_70
theorem t_198_41 : e_Sn 198 41 (e_un n_198_41) := u_ifeqT rfl (s_ifne (off := (29)) hq_198 (by decide +kernel) rfl rfl : e_Sn 198 41 (o_ifeq 44 70)) t_198_44 t_198_70
noncomputable def n_198_38 : e_Y := u_callV 12 195 3 22 3 n_195_0 n_198_41
theorem t_198_38 : e_Sn 198 38 (e_un n_198_38) := u_callVT rfl (s_callV (ci := 12) (C := er_12) (T := et_12) (N := 5) (index := 148) hq_198 ho_198 hy_195 hp_195 hc_195 hi_195 hd_195 (List.mem_of_getElem? (i := 1992) (by decide +kernel)) hs_195 (List.mem_of_getElem? (i := 73) (by decide +kernel)) rfl (by decide +kernel) rfl : e_Sn 198 38 (o_callV (e_s1 12 195 3) 3 41)) t_195_0 t_198_41
noncomputable def n_198_37 : e_Y := u_push (.inl 2147483649) n_198_38
theorem t_198_37 : e_Sn 198 37 (e_un n_198_37) := u_pushT (s_iconst (n := (1)) hq_198 (by decide +kernel) rfl ⟨by decide +kernel, by decide +kernel⟩ : e_Sn 198 37 (o_push (.inl 2147483649) 38)) t_198_38
noncomputable def n_198_35 : e_Y := u_ld f_okI f_l7 n_198_37
theorem t_198_35 : e_Sn 198 35 (e_un n_198_35) := u_ldIT f_l7_eq (s_iload (i := .iload 7) (len := 2) hq_198 (by decide +kernel) rfl (.inl ⟨rfl, rfl⟩) : e_Sn 198 35 (o_load e_okI 7 37)) t_198_37
noncomputable def n_198_34 : e_Y := u_ld f_okA f_l0 n_198_35
theorem t_198_34 : e_Sn 198 34 (e_un n_198_34) := u_ldAT f_l0_eq (s_aload (i := .aload_n 0) (len := 1) hq_198 (by decide +kernel) rfl (.inr ⟨0, rfl, rfl, rfl⟩) : e_Sn 198 34 (o_load e_okR 0 35)) t_198_35
noncomputable def n_198_32 : e_Y := u_st f_okI f_s7 n_198_34
theorem t_198_32 : e_Sn 198 32 (e_un n_198_32) := u_stIT (fun _ _ _ => f_s7_eq) (s_istore (i := .istore 7) (len := 2) hq_198 (by decide +kernel) rfl (.inl ⟨rfl, rfl⟩) : e_Sn 198 32 (o_store e_okI 7 34)) t_198_34
noncomputable def n_198_31 : e_Y := u_push (.inl 2147483648) n_198_32
theorem t_198_31 : e_Sn 198 31 (e_un n_198_31) := u_pushT (s_iconst (n := (0)) hq_198 (by decide +kernel) rfl ⟨by decide +kernel, by decide +kernel⟩ : e_Sn 198 31 (o_push (.inl 2147483648) 32)) t_198_32
noncomputable def n_198_28 : e_Y := n_198_32
theorem t_198_28 : e_Sn 198 28 (e_un n_198_28) := u_gotoT (s_goto (off := (4)) hq_198 (by decide +kernel) rfl : e_Sn 198 28 (o_goto 32)) t_198_32
noncomputable def n_198_27 : e_Y := u_push (.inl 2147483649) n_198_28
theorem t_198_27 : e_Sn 198 27 (e_un n_198_27) := u_pushT (s_iconst (n := (1)) hq_198 (by decide +kernel) rfl ⟨by decide +kernel, by decide +kernel⟩ : e_Sn 198 27 (o_push (.inl 2147483649) 28)) t_198_28
noncomputable def n_198_24 : e_Y := u_if y_ne0 (u_old2 (o_ifeq 31 27) 31 n_198_31 n_198_27) n_198_31 n_198_27
theorem t_198_24 : e_Sn 198 24 (e_un n_198_24) := u_ifeqT rfl (s_ifeq (off := (7)) hq_198 (by decide +kernel) rfl rfl : e_Sn 198 24 (o_ifeq 31 27)) t_198_31 t_198_27
noncomputable def n_198_21 : e_Y := u_callS 167 2 21 2 n_167_0 n_198_24
theorem t_198_21 : e_Sn 198 21 (e_un n_198_21) := u_callST rfl (s_callS (index := 144) hq_198 ho_198 hy_167 hp_167 hc_167 hi_167 hd_167 (List.mem_of_getElem? (i := 1982) (by decide +kernel)) hs_167 (by decide +kernel) rfl : e_Sn 198 21 (o_callS 167 2 2 24)) t_167_0 t_198_24
noncomputable def n_198_19 : e_Y := u_ld f_okI f_l6 n_198_21
theorem t_198_19 : e_Sn 198 19 (e_un n_198_19) := u_ldIT f_l6_eq (s_iload (i := .iload 6) (len := 2) hq_198 (by decide +kernel) rfl (.inl ⟨rfl, rfl⟩) : e_Sn 198 19 (o_load e_okI 6 21)) t_198_21
noncomputable def n_198_17 : e_Y := u_ld f_okI f_l5 n_198_19
theorem t_198_17 : e_Sn 198 17 (e_un n_198_17) := u_ldIT f_l5_eq (s_iload (i := .iload 5) (len := 2) hq_198 (by decide +kernel) rfl (.inl ⟨rfl, rfl⟩) : e_Sn 198 17 (o_load e_okI 5 19)) t_198_19
noncomputable def n_198_14 : e_Y := u_if y_ne0 (u_old2 (o_ifeq 17 27) 17 n_198_17 n_198_27) n_198_17 n_198_27
theorem t_198_14 : e_Sn 198 14 (e_un n_198_14) := u_ifeqT rfl (s_ifne (off := (13)) hq_198 (by decide +kernel) rfl rfl : e_Sn 198 14 (o_ifeq 17 27)) t_198_17 t_198_27
noncomputable def n_198_11 : e_Y := u_callS 167 2 21 2 n_167_0 n_198_14
theorem t_198_11 : e_Sn 198 11 (e_un n_198_11) := u_callST rfl (s_callS (index := 144) hq_198 ho_198 hy_167 hp_167 hc_167 hi_167 hd_167 (List.mem_of_getElem? (i := 1982) (by decide +kernel)) hs_167 (by decide +kernel) rfl : e_Sn 198 11 (o_callS 167 2 2 14)) t_167_0 t_198_14
noncomputable def n_198_9 : e_Y := u_ld f_okI f_l4 n_198_11
theorem t_198_9 : e_Sn 198 9 (e_un n_198_9) := u_ldIT f_l4_eq (s_iload (i := .iload 4) (len := 2) hq_198 (by decide +kernel) rfl (.inl ⟨rfl, rfl⟩) : e_Sn 198 9 (o_load e_okI 4 11)) t_198_11
noncomputable def n_198_8 : e_Y := u_ld f_okI f_l3 n_198_9
theorem t_198_8 : e_Sn 198 8 (e_un n_198_8) := u_ldIT f_l3_eq (s_iload (i := .iload_n 3) (len := 1) hq_198 (by decide +kernel) rfl (.inr ⟨3, rfl, rfl, rfl⟩) : e_Sn 198 8 (o_load e_okI 3 9)) t_198_9
noncomputable def n_198_5 : e_Y := u_if y_ne0 (u_old2 (o_ifeq 8 27) 8 n_198_8 n_198_27) n_198_8 n_198_27
theorem t_198_5 : e_Sn 198 5 (e_un n_198_5) := u_ifeqT rfl (s_ifne (off := (22)) hq_198 (by decide +kernel) rfl rfl : e_Sn 198 5 (o_ifeq 8 27)) t_198_8 t_198_27
noncomputable def n_198_2 : e_Y := u_callS 167 2 21 2 n_167_0 n_198_5
theorem t_198_2 : e_Sn 198 2 (e_un n_198_2) := u_callST rfl (s_callS (index := 144) hq_198 ho_198 hy_167 hp_167 hc_167 hi_167 hd_167 (List.mem_of_getElem? (i := 1982) (by decide +kernel)) hs_167 (by decide +kernel) rfl : e_Sn 198 2 (o_callS 167 2 2 5)) t_167_0 t_198_5
noncomputable def n_198_1 : e_Y := u_ld f_okI f_l2 n_198_2
theorem t_198_1 : e_Sn 198 1 (e_un n_198_1) := u_ldIT f_l2_eq (s_iload (i := .iload_n 2) (len := 1) hq_198 (by decide +kernel) rfl (.inr ⟨2, rfl, rfl, rfl⟩) : e_Sn 198 1 (o_load e_okI 2 2)) t_198_2
noncomputable def n_198_0 : e_Y := u_ld f_okI f_l1 n_198_1
theorem t_198_0 : e_Sn 198 0 (e_un n_198_0) := u_ldIT f_l1_eq (s_iload (i := .iload_n 1) (len := 1) hq_198 (by decide +kernel) rfl (.inr ⟨1, rfl, rfl, rfl⟩) : e_Sn 198 0 (o_load e_okI 1 1)) t_198_1
noncomputable def e_tb_198 : e_X := (e_br 98 (e_br 79 (e_lf 0 (e_un n_198_0)) (e_lf 79 (e_un n_198_79))) (e_br 118 (e_lf 98 (e_un n_198_98)) (e_lf 118 (e_un n_198_118))))
theorem e_tk_198 : e_Tb 198 e_tb_198 := (e_brT (e_brT (e_lfT t_198_0) (e_lfT t_198_79)) (e_brT (e_lfT t_198_98) (e_lfT t_198_118)))
theorem hq_199 : (e_ml[199]?).map (·.2.1) = some prog_14_method_22_code := rfl
theorem ho_199 : (e_ml[199]?).map (·.1.cls) = some "PlateroomprinterModel" := rfl
theorem hr_199 : (e_ml[199]?).map (·.2.2.2) = some (some .int) := rfl
noncomputable def n_199_4 : e_Y := u_retI
theorem t_199_4 : e_Sn 199 4 (e_un n_199_4) := u_retIT (s_iret hq_199 hr_199 (by decide +kernel) : e_Sn 199 4 (o_ret e_okI))
noncomputable def n_199_1 : e_Y := u_getf 12 0 (u_old (o_getf (e_f1 12 0) 4) n_199_4) n_199_4
theorem t_199_1 : e_Sn 199 1 (e_un n_199_1) := u_getfT (s_getf (C := er_12) (T := et_12) (N := 5) (ref := "PlateroomprinterModel") (index := 124) (ci := 12) (k := 0) hq_199 ho_199 ⟨rfl, by decide, ei_12, (List.mem_of_getElem? (i := 1958) (by decide +kernel)), .inl rfl⟩ (by decide +kernel) rfl : e_Sn 199 1 (o_getf (e_f1 12 0) 4)) t_199_4
noncomputable def n_199_0 : e_Y := u_ld f_okA f_l0 n_199_1
theorem t_199_0 : e_Sn 199 0 (e_un n_199_0) := u_ldAT f_l0_eq (s_aload (i := .aload_n 0) (len := 1) hq_199 (by decide +kernel) rfl (.inr ⟨0, rfl, rfl, rfl⟩) : e_Sn 199 0 (o_load e_okR 0 1)) t_199_1
noncomputable def e_tb_199 : e_X := (e_lf 0 (e_un n_199_0))
theorem e_tk_199 : e_Tb 199 e_tb_199 := (e_lfT t_199_0)
theorem hq_200 : (e_ml[200]?).map (·.2.1) = some prog_14_method_26_code := rfl
theorem ho_200 : (e_ml[200]?).map (·.1.cls) = some "PlateroomprinterModel" := rfl
theorem hr_200 : (e_ml[200]?).map (·.2.2.2) = some (some .int) := rfl
noncomputable def n_200_67 : e_Y := u_retI
theorem t_200_67 : e_Sn 200 67 (e_un n_200_67) := u_retIT (s_iret hq_200 hr_200 (by decide +kernel) : e_Sn 200 67 (o_ret e_okI))
noncomputable def n_200_64 : e_Y := u_callV 19 236 1 20 1 n_236_0 n_200_67
theorem t_200_64 : e_Sn 200 64 (e_un n_200_64) := u_callVT rfl (s_callV (ci := 19) (C := er_19) (T := et_19) (N := 3) (index := 74) hq_200 ho_200 hy_236 hp_236 hc_236 hi_236 hd_236 (List.mem_of_getElem? (i := 2000) (by decide +kernel)) hs_236 (List.mem_of_getElem? (i := 2002) (by decide +kernel)) rfl (by decide +kernel) rfl : e_Sn 200 64 (o_callV (e_s1 19 236 1) 1 67)) t_236_0 t_200_67
noncomputable def n_200_61 : e_Y := u_getf 12 2 (u_old (o_getf (e_f1 12 2) 64) n_200_64) n_200_64
theorem t_200_61 : e_Sn 200 61 (e_un n_200_61) := u_getfT (s_getf (C := er_12) (T := et_12) (N := 5) (ref := "PlateroomprinterModel") (index := 19) (ci := 12) (k := 2) hq_200 ho_200 ⟨rfl, by decide, ei_12, (List.mem_of_getElem? (i := 1960) (by decide +kernel)), .inl rfl⟩ (by decide +kernel) rfl : e_Sn 200 61 (o_getf (e_f1 12 2) 64)) t_200_64
noncomputable def n_200_60 : e_Y := u_ld f_okA f_l0 n_200_61
theorem t_200_60 : e_Sn 200 60 (e_un n_200_60) := u_ldAT f_l0_eq (s_aload (i := .aload_n 0) (len := 1) hq_200 (by decide +kernel) rfl (.inr ⟨0, rfl, rfl, rfl⟩) : e_Sn 200 60 (o_load e_okR 0 61)) t_200_61
noncomputable def n_200_59 : e_Y := u_pop n_200_60
theorem t_200_59 : e_Sn 200 59 (e_un n_200_59) := u_popT (s_pop hq_200 (by decide +kernel) rfl : e_Sn 200 59 (o_pop 60)) t_200_60
noncomputable def n_200_56 : e_Y := u_callV 19 225 2 21 2 n_225_0 n_200_59
theorem t_200_56 : e_Sn 200 56 (e_un n_200_56) := u_callVT rfl (s_callV (ci := 19) (C := er_19) (T := et_19) (N := 3) (index := 88) hq_200 ho_200 hy_225 hp_225 hc_225 hi_225 hd_225 (List.mem_of_getElem? (i := 2004) (by decide +kernel)) hs_225 (List.mem_of_getElem? (i := 1822) (by decide +kernel)) rfl (by decide +kernel) rfl : e_Sn 200 56 (o_callV (e_s1 19 225 2) 2 59)) t_225_0 t_200_59
noncomputable def n_200_55 : e_Y := u_old (o_ast 0 e_okI 56) n_200_56
theorem t_200_55 : e_Sn 200 55 (e_un n_200_55) := u_oldT (s_iast hq_200 (by decide +kernel) rfl : e_Sn 200 55 (o_ast 0 e_okI 56)) t_200_56 (e_cg_ast 0 e_okI)
noncomputable def n_200_54 : e_Y := u_ld f_okI f_l2 n_200_55
theorem t_200_54 : e_Sn 200 54 (e_un n_200_54) := u_ldIT f_l2_eq (s_iload (i := .iload_n 2) (len := 1) hq_200 (by decide +kernel) rfl (.inr ⟨2, rfl, rfl, rfl⟩) : e_Sn 200 54 (o_load e_okI 2 55)) t_200_55
noncomputable def n_200_53 : e_Y := u_push (.inl 2147483649) n_200_54
theorem t_200_53 : e_Sn 200 53 (e_un n_200_53) := u_pushT (s_iconst (n := (1)) hq_200 (by decide +kernel) rfl ⟨by decide +kernel, by decide +kernel⟩ : e_Sn 200 53 (o_push (.inl 2147483649) 54)) t_200_54
noncomputable def n_200_52 : e_Y := u_old (o_dup 53) n_200_53
theorem t_200_52 : e_Sn 200 52 (e_un n_200_52) := u_oldT (s_dup hq_200 (by decide +kernel) rfl : e_Sn 200 52 (o_dup 53)) t_200_53 e_cg_dup
noncomputable def n_200_51 : e_Y := u_old (o_ast 0 e_okI 52) n_200_52
theorem t_200_51 : e_Sn 200 51 (e_un n_200_51) := u_oldT (s_iast hq_200 (by decide +kernel) rfl : e_Sn 200 51 (o_ast 0 e_okI 52)) t_200_52 (e_cg_ast 0 e_okI)
noncomputable def n_200_50 : e_Y := u_ld f_okI f_l1 n_200_51
theorem t_200_50 : e_Sn 200 50 (e_un n_200_50) := u_ldIT f_l1_eq (s_iload (i := .iload_n 1) (len := 1) hq_200 (by decide +kernel) rfl (.inr ⟨1, rfl, rfl, rfl⟩) : e_Sn 200 50 (o_load e_okI 1 51)) t_200_51
noncomputable def n_200_49 : e_Y := u_push (.inl 2147483648) n_200_50
theorem t_200_49 : e_Sn 200 49 (e_un n_200_49) := u_pushT (s_iconst (n := (0)) hq_200 (by decide +kernel) rfl ⟨by decide +kernel, by decide +kernel⟩ : e_Sn 200 49 (o_push (.inl 2147483648) 50)) t_200_50
noncomputable def n_200_48 : e_Y := u_old (o_dup 49) n_200_49
theorem t_200_48 : e_Sn 200 48 (e_un n_200_48) := u_oldT (s_dup hq_200 (by decide +kernel) rfl : e_Sn 200 48 (o_dup 49)) t_200_49 e_cg_dup
noncomputable def n_200_46 : e_Y := u_tab (o_newa 0 (e_I 2147483648) 48)
theorem t_200_46 : e_Sn 200 46 (e_un n_200_46) := u_tabT (s_newI (List.mem_of_getElem? (i := 215) (by decide +kernel)) hq_200 (by decide +kernel) rfl : e_Sn 200 46 (o_newa 0 (e_I 2147483648) 48))
noncomputable def n_200_45 : e_Y := u_push (.inl 2147483650) n_200_46
theorem t_200_45 : e_Sn 200 45 (e_un n_200_45) := u_pushT (s_iconst (n := (2)) hq_200 (by decide +kernel) rfl ⟨by decide +kernel, by decide +kernel⟩ : e_Sn 200 45 (o_push (.inl 2147483650) 46)) t_200_46
noncomputable def n_200_42 : e_Y := u_getf 12 2 (u_old (o_getf (e_f1 12 2) 45) n_200_45) n_200_45
theorem t_200_42 : e_Sn 200 42 (e_un n_200_42) := u_getfT (s_getf (C := er_12) (T := et_12) (N := 5) (ref := "PlateroomprinterModel") (index := 19) (ci := 12) (k := 2) hq_200 ho_200 ⟨rfl, by decide, ei_12, (List.mem_of_getElem? (i := 1960) (by decide +kernel)), .inl rfl⟩ (by decide +kernel) rfl : e_Sn 200 42 (o_getf (e_f1 12 2) 45)) t_200_45
noncomputable def n_200_41 : e_Y := u_ld f_okA f_l0 n_200_42
theorem t_200_41 : e_Sn 200 41 (e_un n_200_41) := u_ldAT f_l0_eq (s_aload (i := .aload_n 0) (len := 1) hq_200 (by decide +kernel) rfl (.inr ⟨0, rfl, rfl, rfl⟩) : e_Sn 200 41 (o_load e_okR 0 42)) t_200_42
noncomputable def n_200_40 : e_Y := u_retI
theorem t_200_40 : e_Sn 200 40 (e_un n_200_40) := u_retIT (s_iret hq_200 hr_200 (by decide +kernel) : e_Sn 200 40 (o_ret e_okI))
noncomputable def n_200_39 : e_Y := u_push (.inl 2147483648) n_200_40
theorem t_200_39 : e_Sn 200 39 (e_un n_200_39) := u_pushT (s_iconst (n := (0)) hq_200 (by decide +kernel) rfl ⟨by decide +kernel, by decide +kernel⟩ : e_Sn 200 39 (o_push (.inl 2147483648) 40)) t_200_40
noncomputable def n_200_36 : e_Y := u_if y_ne0 (u_old2 (o_ifeq 41 39) 41 n_200_41 n_200_39) n_200_41 n_200_39
theorem t_200_36 : e_Sn 200 36 (e_un n_200_36) := u_ifeqT rfl (s_ifeq (off := (5)) hq_200 (by decide +kernel) rfl rfl : e_Sn 200 36 (o_ifeq 41 39)) t_200_41 t_200_39
noncomputable def n_200_33 : e_Y := u_callV 12 187 3 22 3 n_187_0 n_200_36
theorem t_200_33 : e_Sn 200 33 (e_un n_200_33) := u_callVT rfl (s_callV (ci := 12) (C := er_12) (T := et_12) (N := 5) (index := 128) hq_200 ho_200 hy_187 hp_187 hc_187 hi_187 hd_187 (List.mem_of_getElem? (i := 1996) (by decide +kernel)) hs_187 (List.mem_of_getElem? (i := 74) (by decide +kernel)) rfl (by decide +kernel) rfl : e_Sn 200 33 (o_callV (e_s1 12 187 3) 3 36)) t_187_0 t_200_36
noncomputable def n_200_32 : e_Y := u_push (.inl 2147483650) n_200_33
theorem t_200_32 : e_Sn 200 32 (e_un n_200_32) := u_pushT (s_iconst (n := (2)) hq_200 (by decide +kernel) rfl ⟨by decide +kernel, by decide +kernel⟩ : e_Sn 200 32 (o_push (.inl 2147483650) 33)) t_200_33
noncomputable def n_200_31 : e_Y := u_push (.inl 2147483648) n_200_32
theorem t_200_31 : e_Sn 200 31 (e_un n_200_31) := u_pushT (s_iconst (n := (0)) hq_200 (by decide +kernel) rfl ⟨by decide +kernel, by decide +kernel⟩ : e_Sn 200 31 (o_push (.inl 2147483648) 32)) t_200_32
noncomputable def n_200_24 : e_Y := u_jmp y_ne (u_old2 (o_ceq 27 31) 27 (u_at 27) n_200_31) (u_at 27) n_200_31
theorem t_200_24 : e_Sn 200 24 (e_un n_200_24) := u_ceqT rfl (s_cne (off := (7)) hq_200 (by decide +kernel) rfl rfl : e_Sn 200 24 (o_ceq 27 31)) u_atT t_200_31
noncomputable def n_200_21 : e_Y := u_push (.inl 2147484048) n_200_24
theorem t_200_21 : e_Sn 200 21 (e_un n_200_21) := u_pushT (s_sipush (n := (400)) hq_200 (by decide +kernel) rfl ⟨by decide +kernel, by decide +kernel⟩ : e_Sn 200 21 (o_push (.inl 2147484048) 24)) t_200_24
noncomputable def n_200_18 : e_Y := u_callV 19 236 1 20 1 n_236_0 n_200_21
theorem t_200_18 : e_Sn 200 18 (e_un n_200_18) := u_callVT rfl (s_callV (ci := 19) (C := er_19) (T := et_19) (N := 3) (index := 74) hq_200 ho_200 hy_236 hp_236 hc_236 hi_236 hd_236 (List.mem_of_getElem? (i := 2000) (by decide +kernel)) hs_236 (List.mem_of_getElem? (i := 2002) (by decide +kernel)) rfl (by decide +kernel) rfl : e_Sn 200 18 (o_callV (e_s1 19 236 1) 1 21)) t_236_0 t_200_21
noncomputable def n_200_15 : e_Y := u_getf 12 2 (u_old (o_getf (e_f1 12 2) 18) n_200_18) n_200_18
theorem t_200_15 : e_Sn 200 15 (e_un n_200_15) := u_getfT (s_getf (C := er_12) (T := et_12) (N := 5) (ref := "PlateroomprinterModel") (index := 19) (ci := 12) (k := 2) hq_200 ho_200 ⟨rfl, by decide, ei_12, (List.mem_of_getElem? (i := 1960) (by decide +kernel)), .inl rfl⟩ (by decide +kernel) rfl : e_Sn 200 15 (o_getf (e_f1 12 2) 18)) t_200_18
noncomputable def n_200_14 : e_Y := u_ld f_okA f_l0 n_200_15
theorem t_200_14 : e_Sn 200 14 (e_un n_200_14) := u_ldAT f_l0_eq (s_aload (i := .aload_n 0) (len := 1) hq_200 (by decide +kernel) rfl (.inr ⟨0, rfl, rfl, rfl⟩) : e_Sn 200 14 (o_load e_okR 0 15)) t_200_15
noncomputable def n_200_13 : e_Y := u_ld f_okA f_l0 n_200_14
theorem t_200_13 : e_Sn 200 13 (e_un n_200_13) := u_ldAT f_l0_eq (s_aload (i := .aload_n 0) (len := 1) hq_200 (by decide +kernel) rfl (.inr ⟨0, rfl, rfl, rfl⟩) : e_Sn 200 13 (o_load e_okR 0 14)) t_200_14
noncomputable def n_200_10 : e_Y := u_if y_ne0 (u_old2 (o_ifeq 13 39) 13 n_200_13 n_200_39) n_200_13 n_200_39
theorem t_200_10 : e_Sn 200 10 (e_un n_200_10) := u_ifeqT rfl (s_ifne (off := (29)) hq_200 (by decide +kernel) rfl rfl : e_Sn 200 10 (o_ifeq 13 39)) t_200_13 t_200_39
noncomputable def n_200_7 : e_Y := u_callV 12 195 3 22 3 n_195_0 n_200_10
theorem t_200_7 : e_Sn 200 7 (e_un n_200_7) := u_callVT rfl (s_callV (ci := 12) (C := er_12) (T := et_12) (N := 5) (index := 148) hq_200 ho_200 hy_195 hp_195 hc_195 hi_195 hd_195 (List.mem_of_getElem? (i := 1992) (by decide +kernel)) hs_195 (List.mem_of_getElem? (i := 73) (by decide +kernel)) rfl (by decide +kernel) rfl : e_Sn 200 7 (o_callV (e_s1 12 195 3) 3 10)) t_195_0 t_200_10
noncomputable def n_200_6 : e_Y := u_push (.inl 2147483649) n_200_7
theorem t_200_6 : e_Sn 200 6 (e_un n_200_6) := u_pushT (s_iconst (n := (1)) hq_200 (by decide +kernel) rfl ⟨by decide +kernel, by decide +kernel⟩ : e_Sn 200 6 (o_push (.inl 2147483649) 7)) t_200_7
noncomputable def n_200_3 : e_Y := u_callS 167 2 21 2 n_167_0 n_200_6
theorem t_200_3 : e_Sn 200 3 (e_un n_200_3) := u_callST rfl (s_callS (index := 144) hq_200 ho_200 hy_167 hp_167 hc_167 hi_167 hd_167 (List.mem_of_getElem? (i := 1982) (by decide +kernel)) hs_167 (by decide +kernel) rfl : e_Sn 200 3 (o_callS 167 2 2 6)) t_167_0 t_200_6
noncomputable def n_200_2 : e_Y := u_ld f_okI f_l2 n_200_3
theorem t_200_2 : e_Sn 200 2 (e_un n_200_2) := u_ldIT f_l2_eq (s_iload (i := .iload_n 2) (len := 1) hq_200 (by decide +kernel) rfl (.inr ⟨2, rfl, rfl, rfl⟩) : e_Sn 200 2 (o_load e_okI 2 3)) t_200_3
noncomputable def n_200_1 : e_Y := u_ld f_okI f_l1 n_200_2
theorem t_200_1 : e_Sn 200 1 (e_un n_200_1) := u_ldIT f_l1_eq (s_iload (i := .iload_n 1) (len := 1) hq_200 (by decide +kernel) rfl (.inr ⟨1, rfl, rfl, rfl⟩) : e_Sn 200 1 (o_load e_okI 1 2)) t_200_2
noncomputable def n_200_0 : e_Y := u_ld f_okA f_l0 n_200_1
theorem t_200_0 : e_Sn 200 0 (e_un n_200_0) := u_ldAT f_l0_eq (s_aload (i := .aload_n 0) (len := 1) hq_200 (by decide +kernel) rfl (.inr ⟨0, rfl, rfl, rfl⟩) : e_Sn 200 0 (o_load e_okR 0 1)) t_200_1
noncomputable def e_tb_200 : e_X := (e_br 48 (e_lf 0 (e_un n_200_0)) (e_lf 48 (e_un n_200_48)))
theorem e_tk_200 : e_Tb 200 e_tb_200 := (e_brT (e_lfT t_200_0) (e_lfT t_200_48))
theorem hq_201 : (e_ml[201]?).map (·.2.1) = some prog_14_method_35_code := rfl
theorem ho_201 : (e_ml[201]?).map (·.1.cls) = some "PlateroomprinterModel" := rfl
theorem hr_201 : (e_ml[201]?).map (·.2.2.2) = some (some .int) := rfl
noncomputable def n_201_72 : e_Y := u_retI
theorem t_201_72 : e_Sn 201 72 (e_un n_201_72) := u_retIT (s_iret hq_201 hr_201 (by decide +kernel) : e_Sn 201 72 (o_ret e_okI))
noncomputable def n_201_56 : e_Y := n_201_72
theorem t_201_56 : e_Sn 201 56 (e_un n_201_56) := u_gotoT (s_goto (off := (16)) hq_201 (by decide +kernel) rfl : e_Sn 201 56 (o_goto 72)) t_201_72
noncomputable def n_201_55 : e_Y := u_push (.inl 2147483648) n_201_56
theorem t_201_55 : e_Sn 201 55 (e_un n_201_55) := u_pushT (s_iconst (n := (0)) hq_201 (by decide +kernel) rfl ⟨by decide +kernel, by decide +kernel⟩ : e_Sn 201 55 (o_push (.inl 2147483648) 56)) t_201_56
noncomputable def n_201_29 : e_Y := u_if y_ne0 (u_old2 (o_ifeq 32 55) 32 (u_at 32) n_201_55) (u_at 32) n_201_55
theorem t_201_29 : e_Sn 201 29 (e_un n_201_29) := u_ifeqT rfl (s_ifne (off := (26)) hq_201 (by decide +kernel) rfl rfl : e_Sn 201 29 (o_ifeq 32 55)) u_atT t_201_55
noncomputable def n_201_26 : e_Y := u_callV 12 195 3 22 3 n_195_0 n_201_29
theorem t_201_26 : e_Sn 201 26 (e_un n_201_26) := u_callVT rfl (s_callV (ci := 12) (C := er_12) (T := et_12) (N := 5) (index := 148) hq_201 ho_201 hy_195 hp_195 hc_195 hi_195 hd_195 (List.mem_of_getElem? (i := 1992) (by decide +kernel)) hs_195 (List.mem_of_getElem? (i := 73) (by decide +kernel)) rfl (by decide +kernel) rfl : e_Sn 201 26 (o_callV (e_s1 12 195 3) 3 29)) t_195_0 t_201_29
noncomputable def n_201_25 : e_Y := u_push (.inl 2147483649) n_201_26
theorem t_201_25 : e_Sn 201 25 (e_un n_201_25) := u_pushT (s_iconst (n := (1)) hq_201 (by decide +kernel) rfl ⟨by decide +kernel, by decide +kernel⟩ : e_Sn 201 25 (o_push (.inl 2147483649) 26)) t_201_26
noncomputable def n_201_21 : e_Y := n_201_25
theorem t_201_21 : e_Sn 201 21 (e_un n_201_21) := u_gotoT (s_goto (off := (4)) hq_201 (by decide +kernel) rfl : e_Sn 201 21 (o_goto 25)) t_201_25
noncomputable def n_201_20 : e_Y := u_push (.inl 2147483649) n_201_21
theorem t_201_20 : e_Sn 201 20 (e_un n_201_20) := u_pushT (s_iconst (n := (1)) hq_201 (by decide +kernel) rfl ⟨by decide +kernel, by decide +kernel⟩ : e_Sn 201 20 (o_push (.inl 2147483649) 21)) t_201_21
noncomputable def n_201_17 : e_Y := u_if y_ne0 (u_old2 (o_ifeq 20 24) 20 n_201_20 (u_at 24)) n_201_20 (u_at 24)
theorem t_201_17 : e_Sn 201 17 (e_un n_201_17) := u_ifeqT rfl (s_ifne (off := (7)) hq_201 (by decide +kernel) rfl rfl : e_Sn 201 17 (o_ifeq 20 24)) t_201_20 u_atT
noncomputable def n_201_14 : e_Y := u_callS 162 6 25 3 n_162_0 n_201_17
theorem t_201_14 : e_Sn 201 14 (e_un n_201_14) := u_callST rfl (s_callS (index := 136) hq_201 ho_201 hy_162 hp_162 hc_162 hi_162 hd_162 (List.mem_of_getElem? (i := 1987) (by decide +kernel)) hs_162 (by decide +kernel) rfl : e_Sn 201 14 (o_callS 162 6 3 17)) t_162_0 t_201_17
noncomputable def n_201_13 : e_Y := u_old (o_i2l 14) n_201_14
theorem t_201_13 : e_Sn 201 13 (e_un n_201_13) := u_oldT (s_i2l hq_201 (by decide +kernel) rfl : e_Sn 201 13 (o_i2l 14)) t_201_14 e_congr_i2l
noncomputable def n_201_12 : e_Y := u_bin a_isub (u_old (o_isub 13) n_201_13) n_201_13
theorem t_201_12 : e_Sn 201 12 (e_un n_201_12) := u_isubT (s_isub hq_201 (by decide +kernel) rfl : e_Sn 201 12 (o_isub 13)) t_201_13
noncomputable def n_201_11 : e_Y := u_push (.inl 2147483649) n_201_12
theorem t_201_11 : e_Sn 201 11 (e_un n_201_11) := u_pushT (s_iconst (n := (1)) hq_201 (by decide +kernel) rfl ⟨by decide +kernel, by decide +kernel⟩ : e_Sn 201 11 (o_push (.inl 2147483649) 12)) t_201_12
noncomputable def n_201_8 : e_Y := u_callV 19 236 1 20 1 n_236_0 n_201_11
theorem t_201_8 : e_Sn 201 8 (e_un n_201_8) := u_callVT rfl (s_callV (ci := 19) (C := er_19) (T := et_19) (N := 3) (index := 74) hq_201 ho_201 hy_236 hp_236 hc_236 hi_236 hd_236 (List.mem_of_getElem? (i := 2000) (by decide +kernel)) hs_236 (List.mem_of_getElem? (i := 2002) (by decide +kernel)) rfl (by decide +kernel) rfl : e_Sn 201 8 (o_callV (e_s1 19 236 1) 1 11)) t_236_0 t_201_11
noncomputable def n_201_5 : e_Y := u_getf 12 2 (u_old (o_getf (e_f1 12 2) 8) n_201_8) n_201_8
theorem t_201_5 : e_Sn 201 5 (e_un n_201_5) := u_getfT (s_getf (C := er_12) (T := et_12) (N := 5) (ref := "PlateroomprinterModel") (index := 19) (ci := 12) (k := 2) hq_201 ho_201 ⟨rfl, by decide, ei_12, (List.mem_of_getElem? (i := 1960) (by decide +kernel)), .inl rfl⟩ (by decide +kernel) rfl : e_Sn 201 5 (o_getf (e_f1 12 2) 8)) t_201_8
noncomputable def n_201_4 : e_Y := u_ld f_okA f_l0 n_201_5
theorem t_201_4 : e_Sn 201 4 (e_un n_201_4) := u_ldAT f_l0_eq (s_aload (i := .aload_n 0) (len := 1) hq_201 (by decide +kernel) rfl (.inr ⟨0, rfl, rfl, rfl⟩) : e_Sn 201 4 (o_load e_okR 0 5)) t_201_5
noncomputable def n_201_3 : e_Y := u_push (e_L 9223372036854775808) n_201_4
theorem t_201_3 : e_Sn 201 3 (e_un n_201_3) := u_pushT (s_lconst (n := 0) hq_201 (by decide +kernel) rfl ⟨by decide +kernel, by decide +kernel⟩ : e_Sn 201 3 (o_push (e_L 9223372036854775808) 4)) t_201_4
noncomputable def n_201_2 : e_Y := u_old (o_i2l 3) n_201_3
theorem t_201_2 : e_Sn 201 2 (e_un n_201_2) := u_oldT (s_i2l hq_201 (by decide +kernel) rfl : e_Sn 201 2 (o_i2l 3)) t_201_3 e_congr_i2l
noncomputable def n_201_1 : e_Y := u_ld f_okI f_l1 n_201_2
theorem t_201_1 : e_Sn 201 1 (e_un n_201_1) := u_ldIT f_l1_eq (s_iload (i := .iload_n 1) (len := 1) hq_201 (by decide +kernel) rfl (.inr ⟨1, rfl, rfl, rfl⟩) : e_Sn 201 1 (o_load e_okI 1 2)) t_201_2
noncomputable def n_201_0 : e_Y := u_ld f_okA f_l0 n_201_1
theorem t_201_0 : e_Sn 201 0 (e_un n_201_0) := u_ldAT f_l0_eq (s_aload (i := .aload_n 0) (len := 1) hq_201 (by decide +kernel) rfl (.inr ⟨0, rfl, rfl, rfl⟩) : e_Sn 201 0 (o_load e_okR 0 1)) t_201_1
noncomputable def e_tb_201 : e_X := (e_lf 0 (e_un n_201_0))
theorem e_tk_201 : e_Tb 201 e_tb_201 := (e_lfT t_201_0)
theorem hq_202 : (e_ml[202]?).map (·.2.1) = some prog_14_method_34_code := rfl
theorem ho_202 : (e_ml[202]?).map (·.1.cls) = some "PlateroomprinterModel" := rfl
theorem hr_202 : (e_ml[202]?).map (·.2.2.2) = some (some .int) := rfl
noncomputable def n_202_12 : e_Y := u_retI
theorem t_202_12 : e_Sn 202 12 (e_un n_202_12) := u_retIT (s_iret hq_202 hr_202 (by decide +kernel) : e_Sn 202 12 (o_ret e_okI))
noncomputable def n_202_9 : e_Y := u_callV 19 236 1 20 1 n_236_0 n_202_12
theorem t_202_9 : e_Sn 202 9 (e_un n_202_9) := u_callVT rfl (s_callV (ci := 19) (C := er_19) (T := et_19) (N := 3) (index := 74) hq_202 ho_202 hy_236 hp_236 hc_236 hi_236 hd_236 (List.mem_of_getElem? (i := 2000) (by decide +kernel)) hs_236 (List.mem_of_getElem? (i := 2002) (by decide +kernel)) rfl (by decide +kernel) rfl : e_Sn 202 9 (o_callV (e_s1 19 236 1) 1 12)) t_236_0 t_202_12
noncomputable def n_202_6 : e_Y := u_getf 12 2 (u_old (o_getf (e_f1 12 2) 9) n_202_9) n_202_9
theorem t_202_6 : e_Sn 202 6 (e_un n_202_6) := u_getfT (s_getf (C := er_12) (T := et_12) (N := 5) (ref := "PlateroomprinterModel") (index := 19) (ci := 12) (k := 2) hq_202 ho_202 ⟨rfl, by decide, ei_12, (List.mem_of_getElem? (i := 1960) (by decide +kernel)), .inl rfl⟩ (by decide +kernel) rfl : e_Sn 202 6 (o_getf (e_f1 12 2) 9)) t_202_9
noncomputable def n_202_5 : e_Y := u_ld f_okA f_l0 n_202_6
theorem t_202_5 : e_Sn 202 5 (e_un n_202_5) := u_ldAT f_l0_eq (s_aload (i := .aload_n 0) (len := 1) hq_202 (by decide +kernel) rfl (.inr ⟨0, rfl, rfl, rfl⟩) : e_Sn 202 5 (o_load e_okR 0 6)) t_202_6
noncomputable def n_202_2 : e_Y := u_old (o_putf (e_f1 12 0) e_okI 5) n_202_5
theorem t_202_2 : e_Sn 202 2 (e_un n_202_2) := u_oldT (s_putf (ty0 := ey_12) (ok := e_okI) (C := er_12) (T := et_12) (N := 5) (ref := "PlateroomprinterModel") (index := 124) (ci := 12) (k := 0) hq_202 ho_202 ⟨rfl, by decide, ei_12, (List.mem_of_getElem? (i := 1958) (by decide +kernel)), .inl rfl⟩ eo_12 en_12 e_oksI (.inl rfl) (by decide +kernel) rfl : e_Sn 202 2 (o_putf (e_f1 12 0) e_okI 5)) t_202_5 (e_cg_putf (e_f1 12 0) e_okI)
noncomputable def n_202_1 : e_Y := u_push (.inl 2147483648) n_202_2
theorem t_202_1 : e_Sn 202 1 (e_un n_202_1) := u_pushT (s_iconst (n := (0)) hq_202 (by decide +kernel) rfl ⟨by decide +kernel, by decide +kernel⟩ : e_Sn 202 1 (o_push (.inl 2147483648) 2)) t_202_2
noncomputable def n_202_0 : e_Y := u_ld f_okA f_l0 n_202_1
theorem t_202_0 : e_Sn 202 0 (e_un n_202_0) := u_ldAT f_l0_eq (s_aload (i := .aload_n 0) (len := 1) hq_202 (by decide +kernel) rfl (.inr ⟨0, rfl, rfl, rfl⟩) : e_Sn 202 0 (o_load e_okR 0 1)) t_202_1
noncomputable def e_tb_202 : e_X := (e_lf 0 (e_un n_202_0))
theorem e_tk_202 : e_Tb 202 e_tb_202 := (e_lfT t_202_0)
theorem hq_203 : (e_ml[203]?).map (·.2.1) = some prog_14_method_29_code := rfl
theorem ho_203 : (e_ml[203]?).map (·.1.cls) = some "PlateroomprinterModel" := rfl
theorem hr_203 : (e_ml[203]?).map (·.2.2.2) = some (some .int) := rfl
noncomputable def n_203_25 : e_Y := u_retI
theorem t_203_25 : e_Sn 203 25 (e_un n_203_25) := u_retIT (s_iret hq_203 hr_203 (by decide +kernel) : e_Sn 203 25 (o_ret e_okI))
noncomputable def n_203_24 : e_Y := u_ld f_okI f_l1 n_203_25
theorem t_203_24 : e_Sn 203 24 (e_un n_203_24) := u_ldIT f_l1_eq (s_iload (i := .iload_n 1) (len := 1) hq_203 (by decide +kernel) rfl (.inr ⟨1, rfl, rfl, rfl⟩) : e_Sn 203 24 (o_load e_okI 1 25)) t_203_25
noncomputable def n_203_21 : e_Y := u_old (o_putf (e_f1 12 2) e_okR 24) n_203_24
theorem t_203_21 : e_Sn 203 21 (e_un n_203_21) := u_oldT (s_putf (ty0 := ey_12) (ok := e_okR) (C := er_12) (T := et_12) (N := 5) (ref := "PlateroomprinterModel") (index := 19) (ci := 12) (k := 2) hq_203 ho_203 ⟨rfl, by decide, ei_12, (List.mem_of_getElem? (i := 1960) (by decide +kernel)), .inl rfl⟩ eo_12 en_12 e_oksR (.inl rfl) (by decide +kernel) rfl : e_Sn 203 21 (o_putf (e_f1 12 2) e_okR 24)) t_203_24 (e_cg_putf (e_f1 12 2) e_okR)
noncomputable def n_203_18 : e_Y := u_tab (o_callI 224 1 1 21)
theorem t_203_18 : e_Sn 203 18 (e_un n_203_18) := u_tabT (s_callI (index := 18) hq_203 ho_203 hy_224 hp_224 hc_224 hi_224 hd_224 (List.mem_of_getElem? (i := 1957) (by decide +kernel)) rfl rfl hs_224 (by decide +kernel) rfl : e_Sn 203 18 (o_callI 224 1 1 21))
noncomputable def n_203_17 : e_Y := u_old (o_dup 18) n_203_18
theorem t_203_17 : e_Sn 203 17 (e_un n_203_17) := u_oldT (s_dup hq_203 (by decide +kernel) rfl : e_Sn 203 17 (o_dup 18)) t_203_18 e_cg_dup
noncomputable def n_203_14 : e_Y := u_tab (o_new 19 3 ef_19 17)
theorem t_203_14 : e_Sn 203 14 (e_un n_203_14) := u_tabT (s_new (index := 16) (ci := 19) (N := 3) (C := er_19) (T := et_19) (ty0 := ey_19) (fv := eg_19) hq_203 ho_203 rfl ei_19 eo_19 (List.mem_of_getElem? (i := 1956) (by decide +kernel)) (List.mem_of_getElem? (i := 1751) (by decide +kernel)) (List.mem_of_getElem? (i := 155) (by decide +kernel)) eh_19 rfl (e_newrel ek_19) (by decide +kernel) rfl : e_Sn 203 14 (o_new 19 3 ef_19 17))
noncomputable def n_203_13 : e_Y := u_ld f_okA f_l0 n_203_14
theorem t_203_13 : e_Sn 203 13 (e_un n_203_13) := u_ldAT f_l0_eq (s_aload (i := .aload_n 0) (len := 1) hq_203 (by decide +kernel) rfl (.inr ⟨0, rfl, rfl, rfl⟩) : e_Sn 203 13 (o_load e_okR 0 14)) t_203_14
noncomputable def n_203_12 : e_Y := u_st f_okI f_s1 n_203_13
theorem t_203_12 : e_Sn 203 12 (e_un n_203_12) := u_stIT (fun _ _ _ => f_s1_eq) (s_istore (i := .istore_n 1) (len := 1) hq_203 (by decide +kernel) rfl (.inr ⟨1, rfl, rfl, rfl⟩) : e_Sn 203 12 (o_store e_okI 1 13)) t_203_13
noncomputable def n_203_9 : e_Y := u_callV 19 236 1 20 1 n_236_0 n_203_12
theorem t_203_9 : e_Sn 203 9 (e_un n_203_9) := u_callVT rfl (s_callV (ci := 19) (C := er_19) (T := et_19) (N := 3) (index := 74) hq_203 ho_203 hy_236 hp_236 hc_236 hi_236 hd_236 (List.mem_of_getElem? (i := 2000) (by decide +kernel)) hs_236 (List.mem_of_getElem? (i := 2002) (by decide +kernel)) rfl (by decide +kernel) rfl : e_Sn 203 9 (o_callV (e_s1 19 236 1) 1 12)) t_236_0 t_203_12
noncomputable def n_203_6 : e_Y := u_getf 12 2 (u_old (o_getf (e_f1 12 2) 9) n_203_9) n_203_9
theorem t_203_6 : e_Sn 203 6 (e_un n_203_6) := u_getfT (s_getf (C := er_12) (T := et_12) (N := 5) (ref := "PlateroomprinterModel") (index := 19) (ci := 12) (k := 2) hq_203 ho_203 ⟨rfl, by decide, ei_12, (List.mem_of_getElem? (i := 1960) (by decide +kernel)), .inl rfl⟩ (by decide +kernel) rfl : e_Sn 203 6 (o_getf (e_f1 12 2) 9)) t_203_9
noncomputable def n_203_5 : e_Y := u_ld f_okA f_l0 n_203_6
theorem t_203_5 : e_Sn 203 5 (e_un n_203_5) := u_ldAT f_l0_eq (s_aload (i := .aload_n 0) (len := 1) hq_203 (by decide +kernel) rfl (.inr ⟨0, rfl, rfl, rfl⟩) : e_Sn 203 5 (o_load e_okR 0 6)) t_203_6
noncomputable def n_203_2 : e_Y := u_old (o_putf (e_f1 12 0) e_okI 5) n_203_5
theorem t_203_2 : e_Sn 203 2 (e_un n_203_2) := u_oldT (s_putf (ty0 := ey_12) (ok := e_okI) (C := er_12) (T := et_12) (N := 5) (ref := "PlateroomprinterModel") (index := 124) (ci := 12) (k := 0) hq_203 ho_203 ⟨rfl, by decide, ei_12, (List.mem_of_getElem? (i := 1958) (by decide +kernel)), .inl rfl⟩ eo_12 en_12 e_oksI (.inl rfl) (by decide +kernel) rfl : e_Sn 203 2 (o_putf (e_f1 12 0) e_okI 5)) t_203_5 (e_cg_putf (e_f1 12 0) e_okI)
noncomputable def n_203_1 : e_Y := u_push (.inl 2147483648) n_203_2
theorem t_203_1 : e_Sn 203 1 (e_un n_203_1) := u_pushT (s_iconst (n := (0)) hq_203 (by decide +kernel) rfl ⟨by decide +kernel, by decide +kernel⟩ : e_Sn 203 1 (o_push (.inl 2147483648) 2)) t_203_2
noncomputable def n_203_0 : e_Y := u_ld f_okA f_l0 n_203_1
theorem t_203_0 : e_Sn 203 0 (e_un n_203_0) := u_ldAT f_l0_eq (s_aload (i := .aload_n 0) (len := 1) hq_203 (by decide +kernel) rfl (.inr ⟨0, rfl, rfl, rfl⟩) : e_Sn 203 0 (o_load e_okR 0 1)) t_203_1
noncomputable def e_tb_203 : e_X := (e_br 17 (e_lf 0 (e_un n_203_0)) (e_br 21 (e_lf 17 (e_un n_203_17)) (e_lf 21 (e_un n_203_21))))
theorem e_tk_203 : e_Tb 203 e_tb_203 := (e_brT (e_lfT t_203_0) (e_brT (e_lfT t_203_17) (e_lfT t_203_21)))
theorem hq_238 : (e_ml[238]?).map (·.2.1) = some prog_51_method_2_code := rfl
theorem ho_238 : (e_ml[238]?).map (·.1.cls) = some "java/util/ArrayList$Itr" := rfl
theorem hr_238 : (e_ml[238]?).map (·.2.2.2) = some (some .boolean) := rfl
noncomputable def n_238_19 : e_Y := u_tab (o_ret e_okZ)
theorem t_238_19 : e_Sn 238 19 (e_un n_238_19) := u_tabT (s_zret hq_238 hr_238 (by decide +kernel) : e_Sn 238 19 (o_ret e_okZ))
noncomputable def n_238_18 : e_Y := u_push (.inl 2147483648) n_238_19
theorem t_238_18 : e_Sn 238 18 (e_un n_238_18) := u_pushT (s_iconst (n := (0)) hq_238 (by decide +kernel) rfl ⟨by decide +kernel, by decide +kernel⟩ : e_Sn 238 18 (o_push (.inl 2147483648) 19)) t_238_19
noncomputable def n_238_11 : e_Y := u_jmp y_ne (u_old2 (o_ceq 18 14) 18 n_238_18 (u_at 14)) n_238_18 (u_at 14)
theorem t_238_11 : e_Sn 238 11 (e_un n_238_11) := u_ceqT rfl (s_ceq (off := (7)) hq_238 (by decide +kernel) rfl rfl : e_Sn 238 11 (o_ceq 18 14)) t_238_18 u_atT
noncomputable def n_238_8 : e_Y := u_getf 19 1 (u_old (o_getf (e_f1 19 1) 11) n_238_11) n_238_11
theorem t_238_8 : e_Sn 238 8 (e_un n_238_8) := u_getfT (s_getfN (host := "java/util/ArrayList") (C := er_19) (T := et_19) (N := 3) (ref := "java/util/ArrayList") (index := 28) (ci := 19) (k := 1) hq_238 ho_238 ⟨rfl, by decide, ei_19, (List.mem_of_getElem? (i := 1766) (by decide +kernel)), rfl⟩ (by decide +kernel) rfl : e_Sn 238 8 (o_getf (e_f1 19 1) 11)) t_238_11
noncomputable def n_238_5 : e_Y := u_getf 20 3 (u_old (o_getf (e_f1 20 3) 8) n_238_8) n_238_8
theorem t_238_5 : e_Sn 238 5 (e_un n_238_5) := u_getfT (s_getf (C := er_20) (T := et_20) (N := 4) (ref := "java/util/ArrayList$Itr") (index := 1) (ci := 20) (k := 3) hq_238 ho_238 ⟨rfl, by decide, ei_20, (List.mem_of_getElem? (i := 2841) (by decide +kernel)), .inl rfl⟩ (by decide +kernel) rfl : e_Sn 238 5 (o_getf (e_f1 20 3) 8)) t_238_8
noncomputable def n_238_4 : e_Y := u_ld f_okA f_l0 n_238_5
theorem t_238_4 : e_Sn 238 4 (e_un n_238_4) := u_ldAT f_l0_eq (s_aload (i := .aload_n 0) (len := 1) hq_238 (by decide +kernel) rfl (.inr ⟨0, rfl, rfl, rfl⟩) : e_Sn 238 4 (o_load e_okR 0 5)) t_238_5
noncomputable def n_238_1 : e_Y := u_getf 20 0 (u_old (o_getf (e_f1 20 0) 4) n_238_4) n_238_4
theorem t_238_1 : e_Sn 238 1 (e_un n_238_1) := u_getfT (s_getf (C := er_20) (T := et_20) (N := 4) (ref := "java/util/ArrayList$Itr") (index := 25) (ci := 20) (k := 0) hq_238 ho_238 ⟨rfl, by decide, ei_20, (List.mem_of_getElem? (i := 2838) (by decide +kernel)), .inl rfl⟩ (by decide +kernel) rfl : e_Sn 238 1 (o_getf (e_f1 20 0) 4)) t_238_4
noncomputable def n_238_0 : e_Y := u_ld f_okA f_l0 n_238_1
theorem t_238_0 : e_Sn 238 0 (e_un n_238_0) := u_ldAT f_l0_eq (s_aload (i := .aload_n 0) (len := 1) hq_238 (by decide +kernel) rfl (.inr ⟨0, rfl, rfl, rfl⟩) : e_Sn 238 0 (o_load e_okR 0 1)) t_238_1
noncomputable def e_tb_238 : e_X := (e_lf 0 (e_un n_238_0))
theorem e_tk_238 : e_Tb 238 e_tb_238 := (e_lfT t_238_0)
end SN
