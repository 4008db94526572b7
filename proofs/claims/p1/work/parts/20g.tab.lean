/-! TABLES, by program -/
section SN
theorem hq_233 : (e_ml[233]?).map (·.2.1) = some prog_50_method_23_code := rfl
theorem ho_233 : (e_ml[233]?).map (·.1.cls) = some "java/util/ArrayList" := rfl
theorem hr_233 : (e_ml[233]?).map (·.2.2.2) = some (some (.object "java/lang/Object")) := rfl
theorem t_233_0 : e_Sn 233 0 (o_load e_okI 1 1) := s_iload (i := .iload_n 1) (len := 1) hq_233 (by decide +kernel) rfl (.inr ⟨1, rfl, rfl, rfl⟩)
theorem t_233_1 : e_Sn 233 1 (o_load e_okR 0 2) := s_aload (i := .aload_n 0) (len := 1) hq_233 (by decide +kernel) rfl (.inr ⟨0, rfl, rfl, rfl⟩)
theorem t_233_2 : e_Sn 233 2 (o_getf (e_f1 18 1) 5) := s_getf (C := er_18) (T := et_18) (N := 3) (ref := "java/util/ArrayList") (index := 48) (ci := 18) (k := 1) hq_233 ho_233 ⟨rfl, by decide, ei_18, (List.mem_of_getElem? (i := 1767) (by decide +kernel)), .inl rfl⟩ (by decide +kernel) rfl
theorem t_233_5 : e_Sn 233 5 (o_callS 237 2 2 8) := s_callS (index := 118) hq_233 ho_233 hy_237 hp_237 hc_237 hi_237 hd_237 (List.mem_of_getElem? (i := 2021) (by decide +kernel)) hs_237 (by decide +kernel) rfl
theorem t_233_8 : e_Sn 233 8 (o_pop 9) := s_pop hq_233 (by decide +kernel) rfl
theorem t_233_9 : e_Sn 233 9 (o_load e_okR 0 10) := s_aload (i := .aload_n 0) (len := 1) hq_233 (by decide +kernel) rfl (.inr ⟨0, rfl, rfl, rfl⟩)
theorem t_233_10 : e_Sn 233 10 (o_load e_okI 1 11) := s_iload (i := .iload_n 1) (len := 1) hq_233 (by decide +kernel) rfl (.inr ⟨1, rfl, rfl, rfl⟩)
theorem t_233_11 : e_Sn 233 11 (o_callV (e_s1 18 225 2) 2 14) := s_callV (ci := 18) (C := er_18) (T := et_18) (N := 3) (index := 123) hq_233 ho_233 hy_225 hp_225 hc_225 hi_225 hd_225 (List.mem_of_getElem? (i := 2053) (by decide +kernel)) hs_225 (List.mem_of_getElem? (i := 2055) (by decide +kernel)) rfl (by decide +kernel) rfl
theorem t_233_14 : e_Sn 233 14 (o_store e_okR 3 15) := s_astore (i := .astore_n 3) (len := 1) hq_233 (by decide +kernel) rfl (.inr ⟨3, rfl, rfl, rfl⟩)
theorem t_233_15 : e_Sn 233 15 (o_load e_okR 0 16) := s_aload (i := .aload_n 0) (len := 1) hq_233 (by decide +kernel) rfl (.inr ⟨0, rfl, rfl, rfl⟩)
theorem t_233_16 : e_Sn 233 16 (o_getf (e_f1 18 0) 19) := s_getf (C := er_18) (T := et_18) (N := 3) (ref := "java/util/ArrayList") (index := 9) (ci := 18) (k := 0) hq_233 ho_233 ⟨rfl, by decide, ei_18, (List.mem_of_getElem? (i := 1764) (by decide +kernel)), .inl rfl⟩ (by decide +kernel) rfl
theorem t_233_19 : e_Sn 233 19 (o_load e_okI 1 20) := s_iload (i := .iload_n 1) (len := 1) hq_233 (by decide +kernel) rfl (.inr ⟨1, rfl, rfl, rfl⟩)
theorem t_233_20 : e_Sn 233 20 (o_load e_okR 2 21) := s_aload (i := .aload_n 2) (len := 1) hq_233 (by decide +kernel) rfl (.inr ⟨2, rfl, rfl, rfl⟩)
theorem t_233_21 : e_Sn 233 21 (o_astR 3 (fun _ => false) 22) := s_aast (tc := 0) (E := "java/lang/Object") hq_233 rfl (by decide) (fun k hk => by cases hk) (by decide +kernel) rfl
theorem t_233_22 : e_Sn 233 22 (o_load e_okR 3 23) := s_aload (i := .aload_n 3) (len := 1) hq_233 (by decide +kernel) rfl (.inr ⟨3, rfl, rfl, rfl⟩)
theorem t_233_23 : e_Sn 233 23 (o_ret e_okR) := s_aret (.inl ⟨_, rfl⟩) hq_233 hr_233 (by decide +kernel)
noncomputable def e_tb_233 : e_X := (e_br 14 (e_br 8 (e_br 2 (e_br 1 (e_lf 0 (o_load e_okI 1 1)) (e_lf 1 (o_load e_okR 0 2))) (e_br 5 (e_lf 2 (o_getf (e_f1 18 1) 5)) (e_lf 5 (o_callS 237 2 2 8)))) (e_br 10 (e_br 9 (e_lf 8 (o_pop 9)) (e_lf 9 (o_load e_okR 0 10))) (e_br 11 (e_lf 10 (o_load e_okI 1 11)) (e_lf 11 (o_callV (e_s1 18 225 2) 2 14))))) (e_br 20 (e_br 16 (e_br 15 (e_lf 14 (o_store e_okR 3 15)) (e_lf 15 (o_load e_okR 0 16))) (e_br 19 (e_lf 16 (o_getf (e_f1 18 0) 19)) (e_lf 19 (o_load e_okI 1 20)))) (e_br 22 (e_br 21 (e_lf 20 (o_load e_okR 2 21)) (e_lf 21 (o_astR 3 (fun _ => false) 22))) (e_br 23 (e_lf 22 (o_load e_okR 3 23)) (e_lf 23 (o_ret e_okR))))))
theorem e_tk_233 : e_Tb 233 e_tb_233 := (e_brT (e_brT (e_brT (e_brT (e_lfT t_233_0) (e_lfT t_233_1)) (e_brT (e_lfT t_233_2) (e_lfT t_233_5))) (e_brT (e_brT (e_lfT t_233_8) (e_lfT t_233_9)) (e_brT (e_lfT t_233_10) (e_lfT t_233_11)))) (e_brT (e_brT (e_brT (e_lfT t_233_14) (e_lfT t_233_15)) (e_brT (e_lfT t_233_16) (e_lfT t_233_19))) (e_brT (e_brT (e_lfT t_233_20) (e_lfT t_233_21)) (e_brT (e_lfT t_233_22) (e_lfT t_233_23)))))
theorem hq_234 : (e_ml[234]?).map (·.2.1) = some prog_50_method_8_code := rfl
theorem ho_234 : (e_ml[234]?).map (·.1.cls) = some "java/util/ArrayList" := rfl
theorem hr_234 : (e_ml[234]?).map (·.2.2.2) = some (some .int) := rfl
theorem t_234_0 : e_Sn 234 0 (o_load e_okR 0 1) := s_aload (i := .aload_n 0) (len := 1) hq_234 (by decide +kernel) rfl (.inr ⟨0, rfl, rfl, rfl⟩)
theorem t_234_1 : e_Sn 234 1 (o_getf (e_f1 18 1) 4) := s_getf (C := er_18) (T := et_18) (N := 3) (ref := "java/util/ArrayList") (index := 48) (ci := 18) (k := 1) hq_234 ho_234 ⟨rfl, by decide, ei_18, (List.mem_of_getElem? (i := 1767) (by decide +kernel)), .inl rfl⟩ (by decide +kernel) rfl
theorem t_234_4 : e_Sn 234 4 (o_ret e_okI) := s_iret hq_234 hr_234 (by decide +kernel)
noncomputable def e_tb_234 : e_X := (e_br 1 (e_lf 0 (o_load e_okR 0 1)) (e_br 4 (e_lf 1 (o_getf (e_f1 18 1) 4)) (e_lf 4 (o_ret e_okI))))
theorem e_tk_234 : e_Tb 234 e_tb_234 := (e_brT (e_lfT t_234_0) (e_brT (e_lfT t_234_1) (e_lfT t_234_4)))
theorem hq_235 : (e_ml[235]?).map (·.2.1) = some prog_51_method_1_code := rfl
theorem ho_235 : (e_ml[235]?).map (·.1.cls) = some "java/util/ArrayList$Itr" := rfl
theorem hr_235 : (e_ml[235]?).map (·.2.2.2) = some none := rfl
theorem t_235_0 : e_Sn 235 0 (o_load e_okR 0 1) := s_aload (i := .aload_n 0) (len := 1) hq_235 (by decide +kernel) rfl (.inr ⟨0, rfl, rfl, rfl⟩)
theorem t_235_1 : e_Sn 235 1 (o_load e_okR 1 2) := s_aload (i := .aload_n 1) (len := 1) hq_235 (by decide +kernel) rfl (.inr ⟨1, rfl, rfl, rfl⟩)
theorem t_235_2 : e_Sn 235 2 (o_putf (e_f1 19 3) e_okR 5) := s_putf (ty0 := ey_19) (ok := e_okR) (C := er_19) (T := et_19) (N := 4) (ref := "java/util/ArrayList$Itr") (index := 1) (ci := 19) (k := 3) hq_235 ho_235 ⟨rfl, by decide, ei_19, (List.mem_of_getElem? (i := 2841) (by decide +kernel)), .inl rfl⟩ eo_19 en_19 e_oksR (.inr ⟨rfl, rfl, rfl⟩) (by decide +kernel) rfl
theorem t_235_5 : e_Sn 235 5 (o_load e_okR 0 6) := s_aload (i := .aload_n 0) (len := 1) hq_235 (by decide +kernel) rfl (.inr ⟨0, rfl, rfl, rfl⟩)
theorem t_235_6 : e_Sn 235 6 (o_oinit 9) := s_oinit (idx := 7) hq_235 ho_235 (List.mem_of_getElem? (i := 2837) (by decide +kernel)) (List.mem_of_getElem? (i := 190) (by decide +kernel)) (List.mem_of_getElem? (i := 191) (by decide +kernel)) (by decide +kernel) rfl
theorem t_235_9 : e_Sn 235 9 (o_load e_okR 0 10) := s_aload (i := .aload_n 0) (len := 1) hq_235 (by decide +kernel) rfl (.inr ⟨0, rfl, rfl, rfl⟩)
theorem t_235_10 : e_Sn 235 10 (o_push (.inl 2147483647) 11) := s_iconst (n := (-1)) hq_235 (by decide +kernel) rfl ⟨by decide +kernel, by decide +kernel⟩
theorem t_235_11 : e_Sn 235 11 (o_putf (e_f1 19 1) e_okI 14) := s_putf (ty0 := ey_19) (ok := e_okI) (C := er_19) (T := et_19) (N := 4) (ref := "java/util/ArrayList$Itr") (index := 13) (ci := 19) (k := 1) hq_235 ho_235 ⟨rfl, by decide, ei_19, (List.mem_of_getElem? (i := 2839) (by decide +kernel)), .inl rfl⟩ eo_19 en_19 e_oksI (.inl rfl) (by decide +kernel) rfl
theorem t_235_14 : e_Sn 235 14 (o_load e_okR 0 15) := s_aload (i := .aload_n 0) (len := 1) hq_235 (by decide +kernel) rfl (.inr ⟨0, rfl, rfl, rfl⟩)
theorem t_235_15 : e_Sn 235 15 (o_load e_okR 0 16) := s_aload (i := .aload_n 0) (len := 1) hq_235 (by decide +kernel) rfl (.inr ⟨0, rfl, rfl, rfl⟩)
theorem t_235_16 : e_Sn 235 16 (o_getf (e_f1 19 3) 19) := s_getf (C := er_19) (T := et_19) (N := 4) (ref := "java/util/ArrayList$Itr") (index := 1) (ci := 19) (k := 3) hq_235 ho_235 ⟨rfl, by decide, ei_19, (List.mem_of_getElem? (i := 2841) (by decide +kernel)), .inl rfl⟩ (by decide +kernel) rfl
theorem t_235_19 : e_Sn 235 19 (o_getf (e_f1 18 2) 22) := s_getf (C := er_18) (T := et_18) (N := 3) (ref := "java/util/ArrayList") (index := 17) (ci := 18) (k := 2) hq_235 ho_235 ⟨rfl, by decide, ei_18, (List.mem_of_getElem? (i := 1769) (by decide +kernel)), .inr (List.mem_of_getElem? (i := 1770) (by decide +kernel))⟩ (by decide +kernel) rfl
theorem t_235_22 : e_Sn 235 22 (o_putf (e_f1 19 2) e_okI 25) := s_putf (ty0 := ey_19) (ok := e_okI) (C := er_19) (T := et_19) (N := 4) (ref := "java/util/ArrayList$Itr") (index := 22) (ci := 19) (k := 2) hq_235 ho_235 ⟨rfl, by decide, ei_19, (List.mem_of_getElem? (i := 2840) (by decide +kernel)), .inl rfl⟩ eo_19 en_19 e_oksI (.inl rfl) (by decide +kernel) rfl
theorem t_235_25 : e_Sn 235 25 (o_retv) := s_vret hq_235 hr_235 (by decide +kernel)
noncomputable def e_tb_235 : e_X := (e_br 11 (e_br 5 (e_br 1 (e_lf 0 (o_load e_okR 0 1)) (e_br 2 (e_lf 1 (o_load e_okR 1 2)) (e_lf 2 (o_putf (e_f1 19 3) e_okR 5)))) (e_br 9 (e_br 6 (e_lf 5 (o_load e_okR 0 6)) (e_lf 6 (o_oinit 9))) (e_br 10 (e_lf 9 (o_load e_okR 0 10)) (e_lf 10 (o_push (.inl 2147483647) 11))))) (e_br 16 (e_br 14 (e_lf 11 (o_putf (e_f1 19 1) e_okI 14)) (e_br 15 (e_lf 14 (o_load e_okR 0 15)) (e_lf 15 (o_load e_okR 0 16)))) (e_br 22 (e_br 19 (e_lf 16 (o_getf (e_f1 19 3) 19)) (e_lf 19 (o_getf (e_f1 18 2) 22))) (e_br 25 (e_lf 22 (o_putf (e_f1 19 2) e_okI 25)) (e_lf 25 (o_retv))))))
theorem e_tk_235 : e_Tb 235 e_tb_235 := (e_brT (e_brT (e_brT (e_lfT t_235_0) (e_brT (e_lfT t_235_1) (e_lfT t_235_2))) (e_brT (e_brT (e_lfT t_235_5) (e_lfT t_235_6)) (e_brT (e_lfT t_235_9) (e_lfT t_235_10)))) (e_brT (e_brT (e_lfT t_235_11) (e_brT (e_lfT t_235_14) (e_lfT t_235_15))) (e_brT (e_brT (e_lfT t_235_16) (e_lfT t_235_19)) (e_brT (e_lfT t_235_22) (e_lfT t_235_25)))))
theorem hq_237 : (e_ml[237]?).map (·.2.1) = some prog_56_method_17_code := rfl
theorem ho_237 : (e_ml[237]?).map (·.1.cls) = some "java/util/Objects" := rfl
theorem hr_237 : (e_ml[237]?).map (·.2.2.2) = some (some .int) := rfl
theorem t_237_0 : e_Sn 237 0 (o_load e_okI 0 1) := s_iload (i := .iload_n 0) (len := 1) hq_237 (by decide +kernel) rfl (.inr ⟨0, rfl, rfl, rfl⟩)
theorem t_237_1 : e_Sn 237 1 (o_load e_okI 1 2) := s_iload (i := .iload_n 1) (len := 1) hq_237 (by decide +kernel) rfl (.inr ⟨1, rfl, rfl, rfl⟩)
theorem t_237_2 : e_Sn 237 2 (o_push e_N 3) := s_null hq_237 (by decide +kernel) rfl
theorem t_237_3 : e_Sn 237 3 (o_callS 239 3 3 6) := s_callS (index := 105) hq_237 ho_237 hy_239 hp_239 hc_239 hi_239 hd_239 (List.mem_of_getElem? (i := 2024) (by decide +kernel)) hs_239 (by decide +kernel) rfl
theorem t_237_6 : e_Sn 237 6 (o_ret e_okI) := s_iret hq_237 hr_237 (by decide +kernel)
noncomputable def e_tb_237 : e_X := (e_br 2 (e_br 1 (e_lf 0 (o_load e_okI 0 1)) (e_lf 1 (o_load e_okI 1 2))) (e_br 3 (e_lf 2 (o_push e_N 3)) (e_br 6 (e_lf 3 (o_callS 239 3 3 6)) (e_lf 6 (o_ret e_okI)))))
theorem e_tk_237 : e_Tb 237 e_tb_237 := (e_brT (e_brT (e_lfT t_237_0) (e_lfT t_237_1)) (e_brT (e_lfT t_237_2) (e_brT (e_lfT t_237_3) (e_lfT t_237_6))))
theorem hq_238 : (e_ml[238]?).map (·.2.1) = some prog_59_method_27_code := rfl
theorem ho_238 : (e_ml[238]?).map (·.1.cls) = some "jdk/internal/util/ArraysSupport" := rfl
theorem hr_238 : (e_ml[238]?).map (·.2.2.2) = some (some .int) := rfl
theorem t_238_0 : e_Sn 238 0 (o_load e_okI 0 1) := s_iload (i := .iload_n 0) (len := 1) hq_238 (by decide +kernel) rfl (.inr ⟨0, rfl, rfl, rfl⟩)
theorem t_238_1 : e_Sn 238 1 (o_load e_okI 1 2) := s_iload (i := .iload_n 1) (len := 1) hq_238 (by decide +kernel) rfl (.inr ⟨1, rfl, rfl, rfl⟩)
theorem t_238_2 : e_Sn 238 2 (o_load e_okI 2 3) := s_iload (i := .iload_n 2) (len := 1) hq_238 (by decide +kernel) rfl (.inr ⟨2, rfl, rfl, rfl⟩)
theorem t_238_3 : e_Sn 238 3 (o_mmax 6) := s_mmax (index := 194) hq_238 ho_238 (List.mem_of_getElem? (i := 1839) (by decide +kernel)) (List.mem_of_getElem? (i := 229) (by decide +kernel)) (List.mem_of_getElem? (i := 142) (by decide +kernel)) (List.mem_of_getElem? (i := 230) (by decide +kernel)) (by decide +kernel) rfl
theorem t_238_6 : e_Sn 238 6 (o_iadd 7) := s_iadd hq_238 (by decide +kernel) rfl
theorem t_238_7 : e_Sn 238 7 (o_store e_okI 3 8) := s_istore (i := .istore_n 3) (len := 1) hq_238 (by decide +kernel) rfl (.inr ⟨3, rfl, rfl, rfl⟩)
theorem t_238_8 : e_Sn 238 8 (o_push (.inl 2147483648) 9) := s_iconst (n := (0)) hq_238 (by decide +kernel) rfl ⟨by decide +kernel, by decide +kernel⟩
theorem t_238_9 : e_Sn 238 9 (o_load e_okI 3 10) := s_iload (i := .iload_n 3) (len := 1) hq_238 (by decide +kernel) rfl (.inr ⟨3, rfl, rfl, rfl⟩)
theorem t_238_10 : e_Sn 238 10 (o_clt 13 21) := s_cge (off := (11)) hq_238 (by decide +kernel) rfl rfl
theorem t_238_13 : e_Sn 238 13 (o_load e_okI 3 14) := s_iload (i := .iload_n 3) (len := 1) hq_238 (by decide +kernel) rfl (.inr ⟨3, rfl, rfl, rfl⟩)
theorem t_238_14 : e_Sn 238 14 (o_push (e_I 4294967287) 16) := s_ldc (index := 200) (v := (2147483639)) hq_238 ho_238 (List.mem_of_getElem? (i := 1840) (by decide +kernel)) (by decide +kernel) rfl ⟨by decide +kernel, by decide +kernel⟩
theorem t_238_16 : e_Sn 238 16 (o_cgt 21 19) := s_cgt (off := (5)) hq_238 (by decide +kernel) rfl rfl
theorem t_238_19 : e_Sn 238 19 (o_load e_okI 3 20) := s_iload (i := .iload_n 3) (len := 1) hq_238 (by decide +kernel) rfl (.inr ⟨3, rfl, rfl, rfl⟩)
theorem t_238_20 : e_Sn 238 20 (o_ret e_okI) := s_iret hq_238 hr_238 (by decide +kernel)
noncomputable def e_tb_238 : e_X := (e_br 9 (e_br 3 (e_br 1 (e_lf 0 (o_load e_okI 0 1)) (e_br 2 (e_lf 1 (o_load e_okI 1 2)) (e_lf 2 (o_load e_okI 2 3)))) (e_br 7 (e_br 6 (e_lf 3 (o_mmax 6)) (e_lf 6 (o_iadd 7))) (e_br 8 (e_lf 7 (o_store e_okI 3 8)) (e_lf 8 (o_push (.inl 2147483648) 9))))) (e_br 14 (e_br 10 (e_lf 9 (o_load e_okI 3 10)) (e_br 13 (e_lf 10 (o_clt 13 21)) (e_lf 13 (o_load e_okI 3 14)))) (e_br 19 (e_br 16 (e_lf 14 (o_push (e_I 4294967287) 16)) (e_lf 16 (o_cgt 21 19))) (e_br 20 (e_lf 19 (o_load e_okI 3 20)) (e_lf 20 (o_ret e_okI))))))
theorem e_tk_238 : e_Tb 238 e_tb_238 := (e_brT (e_brT (e_brT (e_lfT t_238_0) (e_brT (e_lfT t_238_1) (e_lfT t_238_2))) (e_brT (e_brT (e_lfT t_238_3) (e_lfT t_238_6)) (e_brT (e_lfT t_238_7) (e_lfT t_238_8)))) (e_brT (e_brT (e_lfT t_238_9) (e_brT (e_lfT t_238_10) (e_lfT t_238_13))) (e_brT (e_brT (e_lfT t_238_14) (e_lfT t_238_16)) (e_brT (e_lfT t_238_19) (e_lfT t_238_20)))))
theorem hq_239 : (e_ml[239]?).map (·.2.1) = some prog_60_method_11_code := rfl
theorem ho_239 : (e_ml[239]?).map (·.1.cls) = some "jdk/internal/util/Preconditions" := rfl
theorem hr_239 : (e_ml[239]?).map (·.2.2.2) = some (some .int) := rfl
theorem t_239_0 : e_Sn 239 0 (o_load e_okI 0 1) := s_iload (i := .iload_n 0) (len := 1) hq_239 (by decide +kernel) rfl (.inr ⟨0, rfl, rfl, rfl⟩)
theorem t_239_1 : e_Sn 239 1 (o_iflt 9 4) := s_iflt (off := (8)) hq_239 (by decide +kernel) rfl rfl
theorem t_239_4 : e_Sn 239 4 (o_load e_okI 0 5) := s_iload (i := .iload_n 0) (len := 1) hq_239 (by decide +kernel) rfl (.inr ⟨0, rfl, rfl, rfl⟩)
theorem t_239_5 : e_Sn 239 5 (o_load e_okI 1 6) := s_iload (i := .iload_n 1) (len := 1) hq_239 (by decide +kernel) rfl (.inr ⟨1, rfl, rfl, rfl⟩)
theorem t_239_6 : e_Sn 239 6 (o_clt 16 9) := s_clt (off := (10)) hq_239 (by decide +kernel) rfl rfl
theorem t_239_16 : e_Sn 239 16 (o_load e_okI 0 17) := s_iload (i := .iload_n 0) (len := 1) hq_239 (by decide +kernel) rfl (.inr ⟨0, rfl, rfl, rfl⟩)
theorem t_239_17 : e_Sn 239 17 (o_ret e_okI) := s_iret hq_239 hr_239 (by decide +kernel)
noncomputable def e_tb_239 : e_X := (e_br 5 (e_br 1 (e_lf 0 (o_load e_okI 0 1)) (e_br 4 (e_lf 1 (o_iflt 9 4)) (e_lf 4 (o_load e_okI 0 5)))) (e_br 16 (e_br 6 (e_lf 5 (o_load e_okI 1 6)) (e_lf 6 (o_clt 16 9))) (e_br 17 (e_lf 16 (o_load e_okI 0 17)) (e_lf 17 (o_ret e_okI)))))
theorem e_tk_239 : e_Tb 239 e_tb_239 := (e_brT (e_brT (e_lfT t_239_0) (e_brT (e_lfT t_239_1) (e_lfT t_239_4))) (e_brT (e_brT (e_lfT t_239_5) (e_lfT t_239_6)) (e_brT (e_lfT t_239_16) (e_lfT t_239_17))))
end SN
