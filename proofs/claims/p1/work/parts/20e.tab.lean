/-! TABLES, by program -/
section SN
theorem hq_141 : (e_ml[141]?).map (·.2.1) = some prog_14_method_41_code := rfl
theorem ho_141 : (e_ml[141]?).map (·.1.cls) = some "PlateroomprinterModel" := rfl
theorem hr_141 : (e_ml[141]?).map (·.2.2.2) = some (some .int) := rfl
theorem t_141_0 : e_Sn 141 0 (o_load e_okI 1 1) := s_iload (i := .iload_n 1) (len := 1) hq_141 (by decide +kernel) rfl (.inr ⟨1, rfl, rfl, rfl⟩)
theorem t_141_1 : e_Sn 141 1 (o_ifeq 4 14) := s_ifne (off := (13)) hq_141 (by decide +kernel) rfl rfl
theorem t_141_4 : e_Sn 141 4 (o_load e_okR 0 5) := s_aload (i := .aload_n 0) (len := 1) hq_141 (by decide +kernel) rfl (.inr ⟨0, rfl, rfl, rfl⟩)
theorem t_141_5 : e_Sn 141 5 (o_getf (e_f1 12 1) 8) := s_getf (C := er_12) (T := et_12) (N := 5) (ref := "PlateroomprinterModel") (index := 10) (ci := 12) (k := 1) hq_141 ho_141 ⟨rfl, by decide, ei_12, (List.mem_of_getElem? (i := 1959) (by decide +kernel)), .inl rfl⟩ (by decide +kernel) rfl
theorem t_141_8 : e_Sn 141 8 (o_getf (e_f1 13 9) 11) := s_getf (C := er_13) (T := et_13) (N := 13) (ref := "PlateroomprinterModel$Machine") (index := 203) (ci := 13) (k := 9) hq_141 ho_141 ⟨rfl, by decide, ei_13, (List.mem_of_getElem? (i := 1919) (by decide +kernel)), .inl rfl⟩ (by decide +kernel) rfl
theorem t_141_11 : e_Sn 141 11 (o_goto 36) := s_goto (off := (25)) hq_141 (by decide +kernel) rfl
theorem t_141_14 : e_Sn 141 14 (o_load e_okI 1 15) := s_iload (i := .iload_n 1) (len := 1) hq_141 (by decide +kernel) rfl (.inr ⟨1, rfl, rfl, rfl⟩)
theorem t_141_15 : e_Sn 141 15 (o_push (.inl 2147483649) 16) := s_iconst (n := (1)) hq_141 (by decide +kernel) rfl ⟨by decide +kernel, by decide +kernel⟩
theorem t_141_16 : e_Sn 141 16 (o_ceq 19 29) := s_cne (off := (13)) hq_141 (by decide +kernel) rfl rfl
theorem t_141_19 : e_Sn 141 19 (o_load e_okR 0 20) := s_aload (i := .aload_n 0) (len := 1) hq_141 (by decide +kernel) rfl (.inr ⟨0, rfl, rfl, rfl⟩)
theorem t_141_20 : e_Sn 141 20 (o_getf (e_f1 12 1) 23) := s_getf (C := er_12) (T := et_12) (N := 5) (ref := "PlateroomprinterModel") (index := 10) (ci := 12) (k := 1) hq_141 ho_141 ⟨rfl, by decide, ei_12, (List.mem_of_getElem? (i := 1959) (by decide +kernel)), .inl rfl⟩ (by decide +kernel) rfl
theorem t_141_23 : e_Sn 141 23 (o_getf (e_f1 13 10) 26) := s_getf (C := er_13) (T := et_13) (N := 13) (ref := "PlateroomprinterModel$Machine") (index := 206) (ci := 13) (k := 10) hq_141 ho_141 ⟨rfl, by decide, ei_13, (List.mem_of_getElem? (i := 1922) (by decide +kernel)), .inl rfl⟩ (by decide +kernel) rfl
theorem t_141_26 : e_Sn 141 26 (o_goto 36) := s_goto (off := (10)) hq_141 (by decide +kernel) rfl
theorem t_141_29 : e_Sn 141 29 (o_load e_okR 0 30) := s_aload (i := .aload_n 0) (len := 1) hq_141 (by decide +kernel) rfl (.inr ⟨0, rfl, rfl, rfl⟩)
theorem t_141_30 : e_Sn 141 30 (o_getf (e_f1 12 1) 33) := s_getf (C := er_12) (T := et_12) (N := 5) (ref := "PlateroomprinterModel") (index := 10) (ci := 12) (k := 1) hq_141 ho_141 ⟨rfl, by decide, ei_12, (List.mem_of_getElem? (i := 1959) (by decide +kernel)), .inl rfl⟩ (by decide +kernel) rfl
theorem t_141_33 : e_Sn 141 33 (o_getf (e_f1 13 11) 36) := s_getf (C := er_13) (T := et_13) (N := 13) (ref := "PlateroomprinterModel$Machine") (index := 209) (ci := 13) (k := 11) hq_141 ho_141 ⟨rfl, by decide, ei_13, (List.mem_of_getElem? (i := 1925) (by decide +kernel)), .inl rfl⟩ (by decide +kernel) rfl
theorem t_141_36 : e_Sn 141 36 (o_ret e_okI) := s_iret hq_141 hr_141 (by decide +kernel)
noncomputable def e_tb_141 : e_X := (e_br 16 (e_br 8 (e_br 4 (e_br 1 (e_lf 0 (o_load e_okI 1 1)) (e_lf 1 (o_ifeq 4 14))) (e_br 5 (e_lf 4 (o_load e_okR 0 5)) (e_lf 5 (o_getf (e_f1 12 1) 8)))) (e_br 14 (e_br 11 (e_lf 8 (o_getf (e_f1 13 9) 11)) (e_lf 11 (o_goto 36))) (e_br 15 (e_lf 14 (o_load e_okI 1 15)) (e_lf 15 (o_push (.inl 2147483649) 16))))) (e_br 26 (e_br 20 (e_br 19 (e_lf 16 (o_ceq 19 29)) (e_lf 19 (o_load e_okR 0 20))) (e_br 23 (e_lf 20 (o_getf (e_f1 12 1) 23)) (e_lf 23 (o_getf (e_f1 13 10) 26)))) (e_br 30 (e_br 29 (e_lf 26 (o_goto 36)) (e_lf 29 (o_load e_okR 0 30))) (e_br 33 (e_lf 30 (o_getf (e_f1 12 1) 33)) (e_br 36 (e_lf 33 (o_getf (e_f1 13 11) 36)) (e_lf 36 (o_ret e_okI)))))))
theorem e_tk_141 : e_Tb 141 e_tb_141 := (e_brT (e_brT (e_brT (e_brT (e_lfT t_141_0) (e_lfT t_141_1)) (e_brT (e_lfT t_141_4) (e_lfT t_141_5))) (e_brT (e_brT (e_lfT t_141_8) (e_lfT t_141_11)) (e_brT (e_lfT t_141_14) (e_lfT t_141_15)))) (e_brT (e_brT (e_brT (e_lfT t_141_16) (e_lfT t_141_19)) (e_brT (e_lfT t_141_20) (e_lfT t_141_23))) (e_brT (e_brT (e_lfT t_141_26) (e_lfT t_141_29)) (e_brT (e_lfT t_141_30) (e_brT (e_lfT t_141_33) (e_lfT t_141_36))))))
theorem hq_142 : (e_ml[142]?).map (·.2.1) = some prog_14_method_74_code := rfl
theorem ho_142 : (e_ml[142]?).map (·.1.cls) = some "PlateroomprinterModel" := rfl
theorem hr_142 : (e_ml[142]?).map (·.2.2.2) = some (some .int) := rfl
theorem t_142_0 : e_Sn 142 0 (o_load e_okR 0 1) := s_aload (i := .aload_n 0) (len := 1) hq_142 (by decide +kernel) rfl (.inr ⟨0, rfl, rfl, rfl⟩)
theorem t_142_1 : e_Sn 142 1 (o_load e_okI 1 2) := s_iload (i := .iload_n 1) (len := 1) hq_142 (by decide +kernel) rfl (.inr ⟨1, rfl, rfl, rfl⟩)
theorem t_142_2 : e_Sn 142 2 (o_callS 164 1 1 5) := s_callS (index := 333) hq_142 ho_142 hy_164 hp_164 hc_164 hi_164 hd_164 (List.mem_of_getElem? (i := 3067) (by decide +kernel)) hs_164 (by decide +kernel) rfl
theorem t_142_5 : e_Sn 142 5 (o_push (.inl 2147483649) 6) := s_iconst (n := (1)) hq_142 (by decide +kernel) rfl ⟨by decide +kernel, by decide +kernel⟩
theorem t_142_6 : e_Sn 142 6 (o_callV (e_s1 12 195 3) 3 9) := s_callV (ci := 12) (C := er_12) (T := et_12) (N := 5) (index := 148) hq_142 ho_142 hy_195 hp_195 hc_195 hi_195 hd_195 (List.mem_of_getElem? (i := 1992) (by decide +kernel)) hs_195 (List.mem_of_getElem? (i := 73) (by decide +kernel)) rfl (by decide +kernel) rfl
theorem t_142_9 : e_Sn 142 9 (o_ifeq 16 12) := s_ifeq (off := (7)) hq_142 (by decide +kernel) rfl rfl
theorem t_142_12 : e_Sn 142 12 (o_push (.inl 2147483648) 13) := s_iconst (n := (0)) hq_142 (by decide +kernel) rfl ⟨by decide +kernel, by decide +kernel⟩
theorem t_142_13 : e_Sn 142 13 (o_goto 27) := s_goto (off := (14)) hq_142 (by decide +kernel) rfl
theorem t_142_16 : e_Sn 142 16 (o_load e_okR 0 17) := s_aload (i := .aload_n 0) (len := 1) hq_142 (by decide +kernel) rfl (.inr ⟨0, rfl, rfl, rfl⟩)
theorem t_142_17 : e_Sn 142 17 (o_getf (e_f1 12 1) 20) := s_getf (C := er_12) (T := et_12) (N := 5) (ref := "PlateroomprinterModel") (index := 10) (ci := 12) (k := 1) hq_142 ho_142 ⟨rfl, by decide, ei_12, (List.mem_of_getElem? (i := 1959) (by decide +kernel)), .inl rfl⟩ (by decide +kernel) rfl
theorem t_142_20 : e_Sn 142 20 (o_getf (e_f1 13 6) 23) := s_getf (C := er_13) (T := et_13) (N := 13) (ref := "PlateroomprinterModel$Machine") (index := 324) (ci := 13) (k := 6) hq_142 ho_142 ⟨rfl, by decide, ei_13, (List.mem_of_getElem? (i := 1910) (by decide +kernel)), .inl rfl⟩ (by decide +kernel) rfl
theorem t_142_23 : e_Sn 142 23 (o_load e_okI 1 24) := s_iload (i := .iload_n 1) (len := 1) hq_142 (by decide +kernel) rfl (.inr ⟨1, rfl, rfl, rfl⟩)
theorem t_142_24 : e_Sn 142 24 (o_callS 143 4 2 27) := s_callS (index := 339) hq_142 ho_142 hy_143 hp_143 hc_143 hi_143 hd_143 (List.mem_of_getElem? (i := 3079) (by decide +kernel)) hs_143 (by decide +kernel) rfl
theorem t_142_27 : e_Sn 142 27 (o_ret e_okI) := s_iret hq_142 hr_142 (by decide +kernel)
noncomputable def e_tb_142 : e_X := (e_br 13 (e_br 5 (e_br 1 (e_lf 0 (o_load e_okR 0 1)) (e_br 2 (e_lf 1 (o_load e_okI 1 2)) (e_lf 2 (o_callS 164 1 1 5)))) (e_br 9 (e_br 6 (e_lf 5 (o_push (.inl 2147483649) 6)) (e_lf 6 (o_callV (e_s1 12 195 3) 3 9))) (e_br 12 (e_lf 9 (o_ifeq 16 12)) (e_lf 12 (o_push (.inl 2147483648) 13))))) (e_br 20 (e_br 16 (e_lf 13 (o_goto 27)) (e_br 17 (e_lf 16 (o_load e_okR 0 17)) (e_lf 17 (o_getf (e_f1 12 1) 20)))) (e_br 24 (e_br 23 (e_lf 20 (o_getf (e_f1 13 6) 23)) (e_lf 23 (o_load e_okI 1 24))) (e_br 27 (e_lf 24 (o_callS 143 4 2 27)) (e_lf 27 (o_ret e_okI))))))
theorem e_tk_142 : e_Tb 142 e_tb_142 := (e_brT (e_brT (e_brT (e_lfT t_142_0) (e_brT (e_lfT t_142_1) (e_lfT t_142_2))) (e_brT (e_brT (e_lfT t_142_5) (e_lfT t_142_6)) (e_brT (e_lfT t_142_9) (e_lfT t_142_12)))) (e_brT (e_brT (e_lfT t_142_13) (e_brT (e_lfT t_142_16) (e_lfT t_142_17))) (e_brT (e_brT (e_lfT t_142_20) (e_lfT t_142_23)) (e_brT (e_lfT t_142_24) (e_lfT t_142_27)))))
theorem hq_143 : (e_ml[143]?).map (·.2.1) = some prog_14_method_73_code := rfl
theorem ho_143 : (e_ml[143]?).map (·.1.cls) = some "PlateroomprinterModel" := rfl
theorem hr_143 : (e_ml[143]?).map (·.2.2.2) = some (some .int) := rfl
theorem t_143_0 : e_Sn 143 0 (o_push (.inl 2147483648) 1) := s_iconst (n := (0)) hq_143 (by decide +kernel) rfl ⟨by decide +kernel, by decide +kernel⟩
theorem t_143_1 : e_Sn 143 1 (o_store e_okI 2 2) := s_istore (i := .istore_n 2) (len := 1) hq_143 (by decide +kernel) rfl (.inr ⟨2, rfl, rfl, rfl⟩)
theorem t_143_2 : e_Sn 143 2 (o_push (.inl 2147483648) 3) := s_iconst (n := (0)) hq_143 (by decide +kernel) rfl ⟨by decide +kernel, by decide +kernel⟩
theorem t_143_3 : e_Sn 143 3 (o_store e_okI 3 4) := s_istore (i := .istore_n 3) (len := 1) hq_143 (by decide +kernel) rfl (.inr ⟨3, rfl, rfl, rfl⟩)
theorem t_143_4 : e_Sn 143 4 (o_load e_okI 3 5) := s_iload (i := .iload_n 3) (len := 1) hq_143 (by decide +kernel) rfl (.inr ⟨3, rfl, rfl, rfl⟩)
theorem t_143_5 : e_Sn 143 5 (o_push (.inl 2147484672) 8) := s_sipush (n := (1024)) hq_143 (by decide +kernel) rfl ⟨by decide +kernel, by decide +kernel⟩
theorem t_143_8 : e_Sn 143 8 (o_clt 11 34) := s_cge (off := (26)) hq_143 (by decide +kernel) rfl rfl
theorem t_143_11 : e_Sn 143 11 (o_load e_okI 2 12) := s_iload (i := .iload_n 2) (len := 1) hq_143 (by decide +kernel) rfl (.inr ⟨2, rfl, rfl, rfl⟩)
theorem t_143_12 : e_Sn 143 12 (o_load e_okR 0 13) := s_aload (i := .aload_n 0) (len := 1) hq_143 (by decide +kernel) rfl (.inr ⟨0, rfl, rfl, rfl⟩)
theorem t_143_13 : e_Sn 143 13 (o_load e_okI 1 14) := s_iload (i := .iload_n 1) (len := 1) hq_143 (by decide +kernel) rfl (.inr ⟨1, rfl, rfl, rfl⟩)
theorem t_143_14 : e_Sn 143 14 (o_push (.inl 2147483680) 16) := s_bipush (n := (32)) hq_143 (by decide +kernel) rfl ⟨by decide +kernel, by decide +kernel⟩
theorem t_143_16 : e_Sn 143 16 (o_imul 17) := s_imul hq_143 (by decide +kernel) rfl
theorem t_143_17 : e_Sn 143 17 (o_push (.inl 2147483680) 19) := s_bipush (n := (32)) hq_143 (by decide +kernel) rfl ⟨by decide +kernel, by decide +kernel⟩
theorem t_143_19 : e_Sn 143 19 (o_imul 20) := s_imul hq_143 (by decide +kernel) rfl
theorem t_143_20 : e_Sn 143 20 (o_load e_okI 3 21) := s_iload (i := .iload_n 3) (len := 1) hq_143 (by decide +kernel) rfl (.inr ⟨3, rfl, rfl, rfl⟩)
theorem t_143_21 : e_Sn 143 21 (o_iadd 22) := s_iadd hq_143 (by decide +kernel) rfl
theorem t_143_22 : e_Sn 143 22 (o_aldO 1 23) := s_zald hq_143 (by decide +kernel) rfl
theorem t_143_23 : e_Sn 143 23 (o_callS 180 1 1 26) := s_callS (index := 107) hq_143 ho_143 hy_180 hp_180 hc_180 hi_180 hd_180 (List.mem_of_getElem? (i := 2482) (by decide +kernel)) hs_180 (by decide +kernel) rfl
theorem t_143_26 : e_Sn 143 26 (o_iadd 27) := s_iadd hq_143 (by decide +kernel) rfl
theorem t_143_27 : e_Sn 143 27 (o_store e_okI 2 28) := s_istore (i := .istore_n 2) (len := 1) hq_143 (by decide +kernel) rfl (.inr ⟨2, rfl, rfl, rfl⟩)
theorem t_143_28 : e_Sn 143 28 (o_iinc 3 1 31) := s_iinc (zz := (1)) hq_143 (by decide +kernel) rfl (by decide +kernel) ⟨by decide, by decide⟩
theorem t_143_31 : e_Sn 143 31 (o_goto 4) := s_goto (off := (-27)) hq_143 (by decide +kernel) rfl
theorem t_143_34 : e_Sn 143 34 (o_load e_okI 2 35) := s_iload (i := .iload_n 2) (len := 1) hq_143 (by decide +kernel) rfl (.inr ⟨2, rfl, rfl, rfl⟩)
theorem t_143_35 : e_Sn 143 35 (o_ret e_okI) := s_iret hq_143 hr_143 (by decide +kernel)
noncomputable def e_tb_143 : e_X := (e_br 17 (e_br 8 (e_br 3 (e_br 1 (e_lf 0 (o_push (.inl 2147483648) 1)) (e_br 2 (e_lf 1 (o_store e_okI 2 2)) (e_lf 2 (o_push (.inl 2147483648) 3)))) (e_br 4 (e_lf 3 (o_store e_okI 3 4)) (e_br 5 (e_lf 4 (o_load e_okI 3 5)) (e_lf 5 (o_push (.inl 2147484672) 8))))) (e_br 13 (e_br 11 (e_lf 8 (o_clt 11 34)) (e_br 12 (e_lf 11 (o_load e_okI 2 12)) (e_lf 12 (o_load e_okR 0 13)))) (e_br 14 (e_lf 13 (o_load e_okI 1 14)) (e_br 16 (e_lf 14 (o_push (.inl 2147483680) 16)) (e_lf 16 (o_imul 17)))))) (e_br 26 (e_br 21 (e_br 19 (e_lf 17 (o_push (.inl 2147483680) 19)) (e_br 20 (e_lf 19 (o_imul 20)) (e_lf 20 (o_load e_okI 3 21)))) (e_br 22 (e_lf 21 (o_iadd 22)) (e_br 23 (e_lf 22 (o_aldO 1 23)) (e_lf 23 (o_callS 180 1 1 26))))) (e_br 31 (e_br 27 (e_lf 26 (o_iadd 27)) (e_br 28 (e_lf 27 (o_store e_okI 2 28)) (e_lf 28 (o_iinc 3 1 31)))) (e_br 34 (e_lf 31 (o_goto 4)) (e_br 35 (e_lf 34 (o_load e_okI 2 35)) (e_lf 35 (o_ret e_okI)))))))
theorem e_tk_143 : e_Tb 143 e_tb_143 := (e_brT (e_brT (e_brT (e_brT (e_lfT t_143_0) (e_brT (e_lfT t_143_1) (e_lfT t_143_2))) (e_brT (e_lfT t_143_3) (e_brT (e_lfT t_143_4) (e_lfT t_143_5)))) (e_brT (e_brT (e_lfT t_143_8) (e_brT (e_lfT t_143_11) (e_lfT t_143_12))) (e_brT (e_lfT t_143_13) (e_brT (e_lfT t_143_14) (e_lfT t_143_16))))) (e_brT (e_brT (e_brT (e_lfT t_143_17) (e_brT (e_lfT t_143_19) (e_lfT t_143_20))) (e_brT (e_lfT t_143_21) (e_brT (e_lfT t_143_22) (e_lfT t_143_23)))) (e_brT (e_brT (e_lfT t_143_26) (e_brT (e_lfT t_143_27) (e_lfT t_143_28))) (e_brT (e_lfT t_143_31) (e_brT (e_lfT t_143_34) (e_lfT t_143_35))))))
theorem hq_145 : (e_ml[145]?).map (·.2.1) = some prog_14_method_43_code := rfl
theorem ho_145 : (e_ml[145]?).map (·.1.cls) = some "PlateroomprinterModel" := rfl
theorem hr_145 : (e_ml[145]?).map (·.2.2.2) = some (some .int) := rfl
theorem t_145_0 : e_Sn 145 0 (o_load e_okR 0 1) := s_aload (i := .aload_n 0) (len := 1) hq_145 (by decide +kernel) rfl (.inr ⟨0, rfl, rfl, rfl⟩)
theorem t_145_1 : e_Sn 145 1 (o_load e_okI 1 2) := s_iload (i := .iload_n 1) (len := 1) hq_145 (by decide +kernel) rfl (.inr ⟨1, rfl, rfl, rfl⟩)
theorem t_145_2 : e_Sn 145 2 (o_i2l 3) := s_i2l hq_145 (by decide +kernel) rfl
theorem t_145_3 : e_Sn 145 3 (o_push (e_L 9223372036854775808) 4) := s_lconst (n := 0) hq_145 (by decide +kernel) rfl ⟨by decide +kernel, by decide +kernel⟩
theorem t_145_4 : e_Sn 145 4 (o_push (e_L 9223372036854775860) 7) := s_ldc2 (index := 140) (v := (52)) hq_145 ho_145 (List.mem_of_getElem? (i := 1990) (by decide +kernel)) (by decide +kernel) rfl ⟨by decide +kernel, by decide +kernel⟩
theorem t_145_7 : e_Sn 145 7 (o_callS 162 6 3 10) := s_callS (index := 136) hq_145 ho_145 hy_162 hp_162 hc_162 hi_162 hd_162 (List.mem_of_getElem? (i := 1987) (by decide +kernel)) hs_162 (by decide +kernel) rfl
theorem t_145_10 : e_Sn 145 10 (o_ifeq 13 17) := s_ifne (off := (7)) hq_145 (by decide +kernel) rfl rfl
theorem t_145_13 : e_Sn 145 13 (o_push (.inl 2147483649) 14) := s_iconst (n := (1)) hq_145 (by decide +kernel) rfl ⟨by decide +kernel, by decide +kernel⟩
theorem t_145_14 : e_Sn 145 14 (o_goto 18) := s_goto (off := (4)) hq_145 (by decide +kernel) rfl
theorem t_145_17 : e_Sn 145 17 (o_push (.inl 2147483648) 18) := s_iconst (n := (0)) hq_145 (by decide +kernel) rfl ⟨by decide +kernel, by decide +kernel⟩
theorem t_145_18 : e_Sn 145 18 (o_push (.inl 2147483649) 19) := s_iconst (n := (1)) hq_145 (by decide +kernel) rfl ⟨by decide +kernel, by decide +kernel⟩
theorem t_145_19 : e_Sn 145 19 (o_callV (e_s1 12 195 3) 3 22) := s_callV (ci := 12) (C := er_12) (T := et_12) (N := 5) (index := 148) hq_145 ho_145 hy_195 hp_195 hc_195 hi_195 hd_195 (List.mem_of_getElem? (i := 1992) (by decide +kernel)) hs_195 (List.mem_of_getElem? (i := 73) (by decide +kernel)) rfl (by decide +kernel) rfl
theorem t_145_22 : e_Sn 145 22 (o_ifeq 29 25) := s_ifeq (off := (7)) hq_145 (by decide +kernel) rfl rfl
theorem t_145_25 : e_Sn 145 25 (o_push (.inl 2147483648) 26) := s_iconst (n := (0)) hq_145 (by decide +kernel) rfl ⟨by decide +kernel, by decide +kernel⟩
theorem t_145_26 : e_Sn 145 26 (o_goto 38) := s_goto (off := (12)) hq_145 (by decide +kernel) rfl
theorem t_145_29 : e_Sn 145 29 (o_load e_okR 0 30) := s_aload (i := .aload_n 0) (len := 1) hq_145 (by decide +kernel) rfl (.inr ⟨0, rfl, rfl, rfl⟩)
theorem t_145_30 : e_Sn 145 30 (o_getf (e_f1 12 1) 33) := s_getf (C := er_12) (T := et_12) (N := 5) (ref := "PlateroomprinterModel") (index := 10) (ci := 12) (k := 1) hq_145 ho_145 ⟨rfl, by decide, ei_12, (List.mem_of_getElem? (i := 1959) (by decide +kernel)), .inl rfl⟩ (by decide +kernel) rfl
theorem t_145_33 : e_Sn 145 33 (o_getf (e_f1 13 12) 36) := s_getf (C := er_13) (T := et_13) (N := 13) (ref := "PlateroomprinterModel$Machine") (index := 215) (ci := 13) (k := 12) hq_145 ho_145 ⟨rfl, by decide, ei_13, (List.mem_of_getElem? (i := 1928) (by decide +kernel)), .inl rfl⟩ (by decide +kernel) rfl
theorem t_145_36 : e_Sn 145 36 (o_load e_okI 1 37) := s_iload (i := .iload_n 1) (len := 1) hq_145 (by decide +kernel) rfl (.inr ⟨1, rfl, rfl, rfl⟩)
theorem t_145_37 : e_Sn 145 37 (o_ald e_fcs 38) := s_iald hq_145 (by decide +kernel) rfl
theorem t_145_38 : e_Sn 145 38 (o_ret e_okI) := s_iret hq_145 hr_145 (by decide +kernel)
noncomputable def e_tb_145 : e_X := (e_br 18 (e_br 7 (e_br 2 (e_br 1 (e_lf 0 (o_load e_okR 0 1)) (e_lf 1 (o_load e_okI 1 2))) (e_br 3 (e_lf 2 (o_i2l 3)) (e_br 4 (e_lf 3 (o_push (e_L 9223372036854775808) 4)) (e_lf 4 (o_push (e_L 9223372036854775860) 7))))) (e_br 13 (e_br 10 (e_lf 7 (o_callS 162 6 3 10)) (e_lf 10 (o_ifeq 13 17))) (e_br 14 (e_lf 13 (o_push (.inl 2147483649) 14)) (e_br 17 (e_lf 14 (o_goto 18)) (e_lf 17 (o_push (.inl 2147483648) 18)))))) (e_br 29 (e_br 22 (e_br 19 (e_lf 18 (o_push (.inl 2147483649) 19)) (e_lf 19 (o_callV (e_s1 12 195 3) 3 22))) (e_br 25 (e_lf 22 (o_ifeq 29 25)) (e_br 26 (e_lf 25 (o_push (.inl 2147483648) 26)) (e_lf 26 (o_goto 38))))) (e_br 36 (e_br 30 (e_lf 29 (o_load e_okR 0 30)) (e_br 33 (e_lf 30 (o_getf (e_f1 12 1) 33)) (e_lf 33 (o_getf (e_f1 13 12) 36)))) (e_br 37 (e_lf 36 (o_load e_okI 1 37)) (e_br 38 (e_lf 37 (o_ald e_fcs 38)) (e_lf 38 (o_ret e_okI)))))))
theorem e_tk_145 : e_Tb 145 e_tb_145 := (e_brT (e_brT (e_brT (e_brT (e_lfT t_145_0) (e_lfT t_145_1)) (e_brT (e_lfT t_145_2) (e_brT (e_lfT t_145_3) (e_lfT t_145_4)))) (e_brT (e_brT (e_lfT t_145_7) (e_lfT t_145_10)) (e_brT (e_lfT t_145_13) (e_brT (e_lfT t_145_14) (e_lfT t_145_17))))) (e_brT (e_brT (e_brT (e_lfT t_145_18) (e_lfT t_145_19)) (e_brT (e_lfT t_145_22) (e_brT (e_lfT t_145_25) (e_lfT t_145_26)))) (e_brT (e_brT (e_lfT t_145_29) (e_brT (e_lfT t_145_30) (e_lfT t_145_33))) (e_brT (e_lfT t_145_36) (e_brT (e_lfT t_145_37) (e_lfT t_145_38))))))
theorem hq_146 : (e_ml[146]?).map (·.2.1) = some prog_14_method_69_code := rfl
theorem ho_146 : (e_ml[146]?).map (·.1.cls) = some "PlateroomprinterModel" := rfl
theorem hr_146 : (e_ml[146]?).map (·.2.2.2) = some (some .int) := rfl
theorem t_146_0 : e_Sn 146 0 (o_load e_okR 0 1) := s_aload (i := .aload_n 0) (len := 1) hq_146 (by decide +kernel) rfl (.inr ⟨0, rfl, rfl, rfl⟩)
theorem t_146_1 : e_Sn 146 1 (o_load e_okI 1 2) := s_iload (i := .iload_n 1) (len := 1) hq_146 (by decide +kernel) rfl (.inr ⟨1, rfl, rfl, rfl⟩)
theorem t_146_2 : e_Sn 146 2 (o_load e_okI 2 3) := s_iload (i := .iload_n 2) (len := 1) hq_146 (by decide +kernel) rfl (.inr ⟨2, rfl, rfl, rfl⟩)
theorem t_146_3 : e_Sn 146 3 (o_callS 163 2 2 6) := s_callS (index := 288) hq_146 ho_146 hy_163 hp_163 hc_163 hi_163 hd_163 (List.mem_of_getElem? (i := 3006) (by decide +kernel)) hs_163 (by decide +kernel) rfl
theorem t_146_6 : e_Sn 146 6 (o_push (.inl 2147483649) 7) := s_iconst (n := (1)) hq_146 (by decide +kernel) rfl ⟨by decide +kernel, by decide +kernel⟩
theorem t_146_7 : e_Sn 146 7 (o_callV (e_s1 12 195 3) 3 10) := s_callV (ci := 12) (C := er_12) (T := et_12) (N := 5) (index := 148) hq_146 ho_146 hy_195 hp_195 hc_195 hi_195 hd_195 (List.mem_of_getElem? (i := 1992) (by decide +kernel)) hs_195 (List.mem_of_getElem? (i := 73) (by decide +kernel)) rfl (by decide +kernel) rfl
theorem t_146_10 : e_Sn 146 10 (o_ifeq 17 13) := s_ifeq (off := (7)) hq_146 (by decide +kernel) rfl rfl
theorem t_146_13 : e_Sn 146 13 (o_push (.inl 2147483648) 14) := s_iconst (n := (0)) hq_146 (by decide +kernel) rfl ⟨by decide +kernel, by decide +kernel⟩
theorem t_146_14 : e_Sn 146 14 (o_goto 33) := s_goto (off := (19)) hq_146 (by decide +kernel) rfl
theorem t_146_17 : e_Sn 146 17 (o_load e_okR 0 18) := s_aload (i := .aload_n 0) (len := 1) hq_146 (by decide +kernel) rfl (.inr ⟨0, rfl, rfl, rfl⟩)
theorem t_146_18 : e_Sn 146 18 (o_getf (e_f1 12 1) 21) := s_getf (C := er_12) (T := et_12) (N := 5) (ref := "PlateroomprinterModel") (index := 10) (ci := 12) (k := 1) hq_146 ho_146 ⟨rfl, by decide, ei_12, (List.mem_of_getElem? (i := 1959) (by decide +kernel)), .inl rfl⟩ (by decide +kernel) rfl
theorem t_146_21 : e_Sn 146 21 (o_getf (e_f1 13 6) 24) := s_getf (C := er_13) (T := et_13) (N := 13) (ref := "PlateroomprinterModel$Machine") (index := 324) (ci := 13) (k := 6) hq_146 ho_146 ⟨rfl, by decide, ei_13, (List.mem_of_getElem? (i := 1910) (by decide +kernel)), .inl rfl⟩ (by decide +kernel) rfl
theorem t_146_24 : e_Sn 146 24 (o_load e_okI 2 25) := s_iload (i := .iload_n 2) (len := 1) hq_146 (by decide +kernel) rfl (.inr ⟨2, rfl, rfl, rfl⟩)
theorem t_146_25 : e_Sn 146 25 (o_push (.inl 2147483680) 27) := s_bipush (n := (32)) hq_146 (by decide +kernel) rfl ⟨by decide +kernel, by decide +kernel⟩
theorem t_146_27 : e_Sn 146 27 (o_imul 28) := s_imul hq_146 (by decide +kernel) rfl
theorem t_146_28 : e_Sn 146 28 (o_load e_okI 1 29) := s_iload (i := .iload_n 1) (len := 1) hq_146 (by decide +kernel) rfl (.inr ⟨1, rfl, rfl, rfl⟩)
theorem t_146_29 : e_Sn 146 29 (o_iadd 30) := s_iadd hq_146 (by decide +kernel) rfl
theorem t_146_30 : e_Sn 146 30 (o_callS 136 4 2 33) := s_callS (index := 327) hq_146 ho_146 hy_136 hp_136 hc_136 hi_136 hd_136 (List.mem_of_getElem? (i := 3060) (by decide +kernel)) hs_136 (by decide +kernel) rfl
theorem t_146_33 : e_Sn 146 33 (o_ret e_okI) := s_iret hq_146 hr_146 (by decide +kernel)
noncomputable def e_tb_146 : e_X := (e_br 17 (e_br 6 (e_br 2 (e_br 1 (e_lf 0 (o_load e_okR 0 1)) (e_lf 1 (o_load e_okI 1 2))) (e_br 3 (e_lf 2 (o_load e_okI 2 3)) (e_lf 3 (o_callS 163 2 2 6)))) (e_br 10 (e_br 7 (e_lf 6 (o_push (.inl 2147483649) 7)) (e_lf 7 (o_callV (e_s1 12 195 3) 3 10))) (e_br 13 (e_lf 10 (o_ifeq 17 13)) (e_br 14 (e_lf 13 (o_push (.inl 2147483648) 14)) (e_lf 14 (o_goto 33)))))) (e_br 27 (e_br 21 (e_br 18 (e_lf 17 (o_load e_okR 0 18)) (e_lf 18 (o_getf (e_f1 12 1) 21))) (e_br 24 (e_lf 21 (o_getf (e_f1 13 6) 24)) (e_br 25 (e_lf 24 (o_load e_okI 2 25)) (e_lf 25 (o_push (.inl 2147483680) 27))))) (e_br 29 (e_br 28 (e_lf 27 (o_imul 28)) (e_lf 28 (o_load e_okI 1 29))) (e_br 30 (e_lf 29 (o_iadd 30)) (e_br 33 (e_lf 30 (o_callS 136 4 2 33)) (e_lf 33 (o_ret e_okI)))))))
theorem e_tk_146 : e_Tb 146 e_tb_146 := (e_brT (e_brT (e_brT (e_brT (e_lfT t_146_0) (e_lfT t_146_1)) (e_brT (e_lfT t_146_2) (e_lfT t_146_3))) (e_brT (e_brT (e_lfT t_146_6) (e_lfT t_146_7)) (e_brT (e_lfT t_146_10) (e_brT (e_lfT t_146_13) (e_lfT t_146_14))))) (e_brT (e_brT (e_brT (e_lfT t_146_17) (e_lfT t_146_18)) (e_brT (e_lfT t_146_21) (e_brT (e_lfT t_146_24) (e_lfT t_146_25)))) (e_brT (e_brT (e_lfT t_146_27) (e_lfT t_146_28)) (e_brT (e_lfT t_146_29) (e_brT (e_lfT t_146_30) (e_lfT t_146_33))))))
theorem hq_147 : (e_ml[147]?).map (·.2.1) = some prog_14_method_58_code := rfl
theorem ho_147 : (e_ml[147]?).map (·.1.cls) = some "PlateroomprinterModel" := rfl
theorem hr_147 : (e_ml[147]?).map (·.2.2.2) = some (some .int) := rfl
theorem t_147_0 : e_Sn 147 0 (o_load e_okR 0 1) := s_aload (i := .aload_n 0) (len := 1) hq_147 (by decide +kernel) rfl (.inr ⟨0, rfl, rfl, rfl⟩)
theorem t_147_1 : e_Sn 147 1 (o_load e_okI 1 2) := s_iload (i := .iload_n 1) (len := 1) hq_147 (by decide +kernel) rfl (.inr ⟨1, rfl, rfl, rfl⟩)
theorem t_147_2 : e_Sn 147 2 (o_i2l 3) := s_i2l hq_147 (by decide +kernel) rfl
theorem t_147_3 : e_Sn 147 3 (o_push (e_L 9223372036854775808) 4) := s_lconst (n := 0) hq_147 (by decide +kernel) rfl ⟨by decide +kernel, by decide +kernel⟩
theorem t_147_4 : e_Sn 147 4 (o_push (e_L 9223372036854775809) 5) := s_lconst (n := 1) hq_147 (by decide +kernel) rfl ⟨by decide +kernel, by decide +kernel⟩
theorem t_147_5 : e_Sn 147 5 (o_callS 162 6 3 8) := s_callS (index := 136) hq_147 ho_147 hy_162 hp_162 hc_162 hi_162 hd_162 (List.mem_of_getElem? (i := 1987) (by decide +kernel)) hs_162 (by decide +kernel) rfl
theorem t_147_8 : e_Sn 147 8 (o_ifeq 11 15) := s_ifne (off := (7)) hq_147 (by decide +kernel) rfl rfl
theorem t_147_11 : e_Sn 147 11 (o_push (.inl 2147483649) 12) := s_iconst (n := (1)) hq_147 (by decide +kernel) rfl ⟨by decide +kernel, by decide +kernel⟩
theorem t_147_12 : e_Sn 147 12 (o_goto 16) := s_goto (off := (4)) hq_147 (by decide +kernel) rfl
theorem t_147_15 : e_Sn 147 15 (o_push (.inl 2147483648) 16) := s_iconst (n := (0)) hq_147 (by decide +kernel) rfl ⟨by decide +kernel, by decide +kernel⟩
theorem t_147_16 : e_Sn 147 16 (o_push (.inl 2147483649) 17) := s_iconst (n := (1)) hq_147 (by decide +kernel) rfl ⟨by decide +kernel, by decide +kernel⟩
theorem t_147_17 : e_Sn 147 17 (o_callV (e_s1 12 195 3) 3 20) := s_callV (ci := 12) (C := er_12) (T := et_12) (N := 5) (index := 148) hq_147 ho_147 hy_195 hp_195 hc_195 hi_195 hd_195 (List.mem_of_getElem? (i := 1992) (by decide +kernel)) hs_195 (List.mem_of_getElem? (i := 73) (by decide +kernel)) rfl (by decide +kernel) rfl
theorem t_147_20 : e_Sn 147 20 (o_ifeq 27 23) := s_ifeq (off := (7)) hq_147 (by decide +kernel) rfl rfl
theorem t_147_23 : e_Sn 147 23 (o_push (.inl 2147483648) 24) := s_iconst (n := (0)) hq_147 (by decide +kernel) rfl ⟨by decide +kernel, by decide +kernel⟩
theorem t_147_24 : e_Sn 147 24 (o_goto 38) := s_goto (off := (14)) hq_147 (by decide +kernel) rfl
theorem t_147_27 : e_Sn 147 27 (o_load e_okR 0 28) := s_aload (i := .aload_n 0) (len := 1) hq_147 (by decide +kernel) rfl (.inr ⟨0, rfl, rfl, rfl⟩)
theorem t_147_28 : e_Sn 147 28 (o_callV (e_s1 12 184 1) 1 31) := s_callV (ci := 12) (C := er_12) (T := et_12) (N := 5) (index := 261) hq_147 ho_147 hy_184 hp_184 hc_184 hi_184 hd_184 (List.mem_of_getElem? (i := 2977) (by decide +kernel)) hs_184 (List.mem_of_getElem? (i := 127) (by decide +kernel)) rfl (by decide +kernel) rfl
theorem t_147_31 : e_Sn 147 31 (o_load e_okI 1 32) := s_iload (i := .iload_n 1) (len := 1) hq_147 (by decide +kernel) rfl (.inr ⟨1, rfl, rfl, rfl⟩)
theorem t_147_32 : e_Sn 147 32 (o_callS 148 4 2 35) := s_callS (index := 291) hq_147 ho_147 hy_148 hp_148 hc_148 hi_148 hd_148 (List.mem_of_getElem? (i := 3014) (by decide +kernel)) hs_148 (by decide +kernel) rfl
theorem t_147_35 : e_Sn 147 35 (o_callS 174 6 1 38) := s_callS (index := 240) hq_147 ho_147 hy_174 hp_174 hc_174 hi_174 hd_174 (List.mem_of_getElem? (i := 2959) (by decide +kernel)) hs_174 (by decide +kernel) rfl
theorem t_147_38 : e_Sn 147 38 (o_ret e_okI) := s_iret hq_147 hr_147 (by decide +kernel)
noncomputable def e_tb_147 : e_X := (e_br 16 (e_br 5 (e_br 2 (e_br 1 (e_lf 0 (o_load e_okR 0 1)) (e_lf 1 (o_load e_okI 1 2))) (e_br 3 (e_lf 2 (o_i2l 3)) (e_br 4 (e_lf 3 (o_push (e_L 9223372036854775808) 4)) (e_lf 4 (o_push (e_L 9223372036854775809) 5))))) (e_br 11 (e_br 8 (e_lf 5 (o_callS 162 6 3 8)) (e_lf 8 (o_ifeq 11 15))) (e_br 12 (e_lf 11 (o_push (.inl 2147483649) 12)) (e_br 15 (e_lf 12 (o_goto 16)) (e_lf 15 (o_push (.inl 2147483648) 16)))))) (e_br 27 (e_br 20 (e_br 17 (e_lf 16 (o_push (.inl 2147483649) 17)) (e_lf 17 (o_callV (e_s1 12 195 3) 3 20))) (e_br 23 (e_lf 20 (o_ifeq 27 23)) (e_br 24 (e_lf 23 (o_push (.inl 2147483648) 24)) (e_lf 24 (o_goto 38))))) (e_br 32 (e_br 28 (e_lf 27 (o_load e_okR 0 28)) (e_br 31 (e_lf 28 (o_callV (e_s1 12 184 1) 1 31)) (e_lf 31 (o_load e_okI 1 32)))) (e_br 35 (e_lf 32 (o_callS 148 4 2 35)) (e_br 38 (e_lf 35 (o_callS 174 6 1 38)) (e_lf 38 (o_ret e_okI)))))))
theorem e_tk_147 : e_Tb 147 e_tb_147 := (e_brT (e_brT (e_brT (e_brT (e_lfT t_147_0) (e_lfT t_147_1)) (e_brT (e_lfT t_147_2) (e_brT (e_lfT t_147_3) (e_lfT t_147_4)))) (e_brT (e_brT (e_lfT t_147_5) (e_lfT t_147_8)) (e_brT (e_lfT t_147_11) (e_brT (e_lfT t_147_12) (e_lfT t_147_15))))) (e_brT (e_brT (e_brT (e_lfT t_147_16) (e_lfT t_147_17)) (e_brT (e_lfT t_147_20) (e_brT (e_lfT t_147_23) (e_lfT t_147_24)))) (e_brT (e_brT (e_lfT t_147_27) (e_brT (e_lfT t_147_28) (e_lfT t_147_31))) (e_brT (e_lfT t_147_32) (e_brT (e_lfT t_147_35) (e_lfT t_147_38))))))
theorem hq_148 : (e_ml[148]?).map (·.2.1) = some prog_14_method_17_code := rfl
theorem ho_148 : (e_ml[148]?).map (·.1.cls) = some "PlateroomprinterModel" := rfl
theorem hr_148 : (e_ml[148]?).map (·.2.2.2) = some (some (.array .boolean)) := rfl
theorem t_148_0 : e_Sn 148 0 (o_push (.inl 2147484672) 3) := s_sipush (n := (1024)) hq_148 (by decide +kernel) rfl ⟨by decide +kernel, by decide +kernel⟩
theorem t_148_3 : e_Sn 148 3 (o_newa 1 (e_I 2147483648) 5) := s_newZ (List.mem_of_getElem? (i := 1819) (by decide +kernel)) hq_148 (by decide +kernel) rfl
theorem t_148_5 : e_Sn 148 5 (o_store e_okR 2 6) := s_astore (i := .astore_n 2) (len := 1) hq_148 (by decide +kernel) rfl (.inr ⟨2, rfl, rfl, rfl⟩)
theorem t_148_6 : e_Sn 148 6 (o_push (.inl 2147483648) 7) := s_iconst (n := (0)) hq_148 (by decide +kernel) rfl ⟨by decide +kernel, by decide +kernel⟩
theorem t_148_7 : e_Sn 148 7 (o_store e_okI 3 8) := s_istore (i := .istore_n 3) (len := 1) hq_148 (by decide +kernel) rfl (.inr ⟨3, rfl, rfl, rfl⟩)
theorem t_148_8 : e_Sn 148 8 (o_load e_okI 3 9) := s_iload (i := .iload_n 3) (len := 1) hq_148 (by decide +kernel) rfl (.inr ⟨3, rfl, rfl, rfl⟩)
theorem t_148_9 : e_Sn 148 9 (o_load e_okR 2 10) := s_aload (i := .aload_n 2) (len := 1) hq_148 (by decide +kernel) rfl (.inr ⟨2, rfl, rfl, rfl⟩)
theorem t_148_10 : e_Sn 148 10 (o_alen e_fcs 11) := s_alen hq_148 (by decide +kernel) rfl
theorem t_148_11 : e_Sn 148 11 (o_clt 14 36) := s_cge (off := (25)) hq_148 (by decide +kernel) rfl rfl
theorem t_148_14 : e_Sn 148 14 (o_load e_okR 2 15) := s_aload (i := .aload_n 2) (len := 1) hq_148 (by decide +kernel) rfl (.inr ⟨2, rfl, rfl, rfl⟩)
theorem t_148_15 : e_Sn 148 15 (o_load e_okI 3 16) := s_iload (i := .iload_n 3) (len := 1) hq_148 (by decide +kernel) rfl (.inr ⟨3, rfl, rfl, rfl⟩)
theorem t_148_16 : e_Sn 148 16 (o_load e_okR 0 17) := s_aload (i := .aload_n 0) (len := 1) hq_148 (by decide +kernel) rfl (.inr ⟨0, rfl, rfl, rfl⟩)
theorem t_148_17 : e_Sn 148 17 (o_load e_okI 1 18) := s_iload (i := .iload_n 1) (len := 1) hq_148 (by decide +kernel) rfl (.inr ⟨1, rfl, rfl, rfl⟩)
theorem t_148_18 : e_Sn 148 18 (o_load e_okI 3 19) := s_iload (i := .iload_n 3) (len := 1) hq_148 (by decide +kernel) rfl (.inr ⟨3, rfl, rfl, rfl⟩)
theorem t_148_19 : e_Sn 148 19 (o_push (.inl 2147483680) 21) := s_bipush (n := (32)) hq_148 (by decide +kernel) rfl ⟨by decide +kernel, by decide +kernel⟩
theorem t_148_21 : e_Sn 148 21 (o_irem 22) := s_irem hq_148 (by decide +kernel) rfl
theorem t_148_22 : e_Sn 148 22 (o_load e_okI 3 23) := s_iload (i := .iload_n 3) (len := 1) hq_148 (by decide +kernel) rfl (.inr ⟨3, rfl, rfl, rfl⟩)
theorem t_148_23 : e_Sn 148 23 (o_push (.inl 2147483680) 25) := s_bipush (n := (32)) hq_148 (by decide +kernel) rfl ⟨by decide +kernel, by decide +kernel⟩
theorem t_148_25 : e_Sn 148 25 (o_idiv 26) := s_idiv hq_148 (by decide +kernel) rfl
theorem t_148_26 : e_Sn 148 26 (o_callS 159 10 4 29) := s_callS (index := 103) hq_148 ho_148 hy_159 hp_159 hc_159 hi_159 hd_159 (List.mem_of_getElem? (i := 2466) (by decide +kernel)) hs_159 (by decide +kernel) rfl
theorem t_148_29 : e_Sn 148 29 (o_ast 1 e_okZ 30) := s_zast hq_148 (by decide +kernel) rfl
theorem t_148_30 : e_Sn 148 30 (o_iinc 3 1 33) := s_iinc (zz := (1)) hq_148 (by decide +kernel) rfl (by decide +kernel) ⟨by decide, by decide⟩
theorem t_148_33 : e_Sn 148 33 (o_goto 8) := s_goto (off := (-25)) hq_148 (by decide +kernel) rfl
theorem t_148_36 : e_Sn 148 36 (o_load e_okR 2 37) := s_aload (i := .aload_n 2) (len := 1) hq_148 (by decide +kernel) rfl (.inr ⟨2, rfl, rfl, rfl⟩)
theorem t_148_37 : e_Sn 148 37 (o_ret e_okR) := s_aret (.inr ⟨_, rfl⟩) hq_148 hr_148 (by decide +kernel)
noncomputable def e_tb_148 : e_X := (e_br 17 (e_br 9 (e_br 6 (e_br 3 (e_lf 0 (o_push (.inl 2147484672) 3)) (e_br 5 (e_lf 3 (o_newa 1 (e_I 2147483648) 5)) (e_lf 5 (o_store e_okR 2 6)))) (e_br 7 (e_lf 6 (o_push (.inl 2147483648) 7)) (e_br 8 (e_lf 7 (o_store e_okI 3 8)) (e_lf 8 (o_load e_okI 3 9))))) (e_br 14 (e_br 10 (e_lf 9 (o_load e_okR 2 10)) (e_br 11 (e_lf 10 (o_alen e_fcs 11)) (e_lf 11 (o_clt 14 36)))) (e_br 15 (e_lf 14 (o_load e_okR 2 15)) (e_br 16 (e_lf 15 (o_load e_okI 3 16)) (e_lf 16 (o_load e_okR 0 17)))))) (e_br 25 (e_br 21 (e_br 18 (e_lf 17 (o_load e_okI 1 18)) (e_br 19 (e_lf 18 (o_load e_okI 3 19)) (e_lf 19 (o_push (.inl 2147483680) 21)))) (e_br 22 (e_lf 21 (o_irem 22)) (e_br 23 (e_lf 22 (o_load e_okI 3 23)) (e_lf 23 (o_push (.inl 2147483680) 25))))) (e_br 30 (e_br 26 (e_lf 25 (o_idiv 26)) (e_br 29 (e_lf 26 (o_callS 159 10 4 29)) (e_lf 29 (o_ast 1 e_okZ 30)))) (e_br 36 (e_br 33 (e_lf 30 (o_iinc 3 1 33)) (e_lf 33 (o_goto 8))) (e_br 37 (e_lf 36 (o_load e_okR 2 37)) (e_lf 37 (o_ret e_okR)))))))
theorem e_tk_148 : e_Tb 148 e_tb_148 := (e_brT (e_brT (e_brT (e_brT (e_lfT t_148_0) (e_brT (e_lfT t_148_3) (e_lfT t_148_5))) (e_brT (e_lfT t_148_6) (e_brT (e_lfT t_148_7) (e_lfT t_148_8)))) (e_brT (e_brT (e_lfT t_148_9) (e_brT (e_lfT t_148_10) (e_lfT t_148_11))) (e_brT (e_lfT t_148_14) (e_brT (e_lfT t_148_15) (e_lfT t_148_16))))) (e_brT (e_brT (e_brT (e_lfT t_148_17) (e_brT (e_lfT t_148_18) (e_lfT t_148_19))) (e_brT (e_lfT t_148_21) (e_brT (e_lfT t_148_22) (e_lfT t_148_23)))) (e_brT (e_brT (e_lfT t_148_25) (e_brT (e_lfT t_148_26) (e_lfT t_148_29))) (e_brT (e_brT (e_lfT t_148_30) (e_lfT t_148_33)) (e_brT (e_lfT t_148_36) (e_lfT t_148_37))))))
theorem hq_149 : (e_ml[149]?).map (·.2.1) = some prog_14_method_28_code := rfl
theorem ho_149 : (e_ml[149]?).map (·.1.cls) = some "PlateroomprinterModel" := rfl
theorem hr_149 : (e_ml[149]?).map (·.2.2.2) = some (some .int) := rfl
theorem t_149_0 : e_Sn 149 0 (o_load e_okR 0 1) := s_aload (i := .aload_n 0) (len := 1) hq_149 (by decide +kernel) rfl (.inr ⟨0, rfl, rfl, rfl⟩)
theorem t_149_1 : e_Sn 149 1 (o_load e_okR 0 2) := s_aload (i := .aload_n 0) (len := 1) hq_149 (by decide +kernel) rfl (.inr ⟨0, rfl, rfl, rfl⟩)
theorem t_149_2 : e_Sn 149 2 (o_getf (e_f1 12 2) 5) := s_getf (C := er_12) (T := et_12) (N := 5) (ref := "PlateroomprinterModel") (index := 19) (ci := 12) (k := 2) hq_149 ho_149 ⟨rfl, by decide, ei_12, (List.mem_of_getElem? (i := 1960) (by decide +kernel)), .inl rfl⟩ (by decide +kernel) rfl
theorem t_149_5 : e_Sn 149 5 (o_callV (e_s1 18 230 1) 1 8) := s_callV (ci := 18) (C := er_18) (T := et_18) (N := 3) (index := 151) hq_149 ho_149 hy_230 hp_230 hc_230 hi_230 hd_230 (List.mem_of_getElem? (i := 2013) (by decide +kernel)) hs_230 (List.mem_of_getElem? (i := 2015) (by decide +kernel)) rfl (by decide +kernel) rfl
theorem t_149_8 : e_Sn 149 8 (o_push (.inl 2147483649) 9) := s_iconst (n := (1)) hq_149 (by decide +kernel) rfl ⟨by decide +kernel, by decide +kernel⟩
theorem t_149_9 : e_Sn 149 9 (o_callV (e_s1 12 195 3) 3 12) := s_callV (ci := 12) (C := er_12) (T := et_12) (N := 5) (index := 148) hq_149 ho_149 hy_195 hp_195 hc_195 hi_195 hd_195 (List.mem_of_getElem? (i := 1992) (by decide +kernel)) hs_195 (List.mem_of_getElem? (i := 73) (by decide +kernel)) rfl (by decide +kernel) rfl
theorem t_149_12 : e_Sn 149 12 (o_ifeq 19 15) := s_ifeq (off := (7)) hq_149 (by decide +kernel) rfl rfl
theorem t_149_15 : e_Sn 149 15 (o_push (.inl 2147483648) 16) := s_iconst (n := (0)) hq_149 (by decide +kernel) rfl ⟨by decide +kernel, by decide +kernel⟩
theorem t_149_16 : e_Sn 149 16 (o_goto 40) := s_goto (off := (24)) hq_149 (by decide +kernel) rfl
theorem t_149_40 : e_Sn 149 40 (o_ret e_okI) := s_iret hq_149 hr_149 (by decide +kernel)
noncomputable def e_tb_149 : e_X := (e_br 9 (e_br 2 (e_br 1 (e_lf 0 (o_load e_okR 0 1)) (e_lf 1 (o_load e_okR 0 2))) (e_br 5 (e_lf 2 (o_getf (e_f1 12 2) 5)) (e_br 8 (e_lf 5 (o_callV (e_s1 18 230 1) 1 8)) (e_lf 8 (o_push (.inl 2147483649) 9))))) (e_br 15 (e_br 12 (e_lf 9 (o_callV (e_s1 12 195 3) 3 12)) (e_lf 12 (o_ifeq 19 15))) (e_br 16 (e_lf 15 (o_push (.inl 2147483648) 16)) (e_br 40 (e_lf 16 (o_goto 40)) (e_lf 40 (o_ret e_okI))))))
theorem e_tk_149 : e_Tb 149 e_tb_149 := (e_brT (e_brT (e_brT (e_lfT t_149_0) (e_lfT t_149_1)) (e_brT (e_lfT t_149_2) (e_brT (e_lfT t_149_5) (e_lfT t_149_8)))) (e_brT (e_brT (e_lfT t_149_9) (e_lfT t_149_12)) (e_brT (e_lfT t_149_15) (e_brT (e_lfT t_149_16) (e_lfT t_149_40)))))
theorem hq_150 : (e_ml[150]?).map (·.2.1) = some prog_14_method_30_code := rfl
theorem ho_150 : (e_ml[150]?).map (·.1.cls) = some "PlateroomprinterModel" := rfl
theorem hr_150 : (e_ml[150]?).map (·.2.2.2) = some (some .int) := rfl
theorem t_150_0 : e_Sn 150 0 (o_load e_okR 0 1) := s_aload (i := .aload_n 0) (len := 1) hq_150 (by decide +kernel) rfl (.inr ⟨0, rfl, rfl, rfl⟩)
theorem t_150_1 : e_Sn 150 1 (o_getf (e_f1 12 3) 4) := s_getf (C := er_12) (T := et_12) (N := 5) (ref := "PlateroomprinterModel") (index := 23) (ci := 12) (k := 3) hq_150 ho_150 ⟨rfl, by decide, ei_12, (List.mem_of_getElem? (i := 1961) (by decide +kernel)), .inl rfl⟩ (by decide +kernel) rfl
theorem t_150_4 : e_Sn 150 4 (o_push (.inl 2147483648) 5) := s_iconst (n := (0)) hq_150 (by decide +kernel) rfl ⟨by decide +kernel, by decide +kernel⟩
theorem t_150_5 : e_Sn 150 5 (o_load e_okI 1 6) := s_iload (i := .iload_n 1) (len := 1) hq_150 (by decide +kernel) rfl (.inr ⟨1, rfl, rfl, rfl⟩)
theorem t_150_6 : e_Sn 150 6 (o_ast 0 e_okI 7) := s_iast hq_150 (by decide +kernel) rfl
theorem t_150_7 : e_Sn 150 7 (o_load e_okR 0 8) := s_aload (i := .aload_n 0) (len := 1) hq_150 (by decide +kernel) rfl (.inr ⟨0, rfl, rfl, rfl⟩)
theorem t_150_8 : e_Sn 150 8 (o_getf (e_f1 12 3) 11) := s_getf (C := er_12) (T := et_12) (N := 5) (ref := "PlateroomprinterModel") (index := 23) (ci := 12) (k := 3) hq_150 ho_150 ⟨rfl, by decide, ei_12, (List.mem_of_getElem? (i := 1961) (by decide +kernel)), .inl rfl⟩ (by decide +kernel) rfl
theorem t_150_11 : e_Sn 150 11 (o_push (.inl 2147483649) 12) := s_iconst (n := (1)) hq_150 (by decide +kernel) rfl ⟨by decide +kernel, by decide +kernel⟩
theorem t_150_12 : e_Sn 150 12 (o_load e_okI 2 13) := s_iload (i := .iload_n 2) (len := 1) hq_150 (by decide +kernel) rfl (.inr ⟨2, rfl, rfl, rfl⟩)
theorem t_150_13 : e_Sn 150 13 (o_ast 0 e_okI 14) := s_iast hq_150 (by decide +kernel) rfl
theorem t_150_14 : e_Sn 150 14 (o_load e_okR 0 15) := s_aload (i := .aload_n 0) (len := 1) hq_150 (by decide +kernel) rfl (.inr ⟨0, rfl, rfl, rfl⟩)
theorem t_150_15 : e_Sn 150 15 (o_getf (e_f1 12 3) 18) := s_getf (C := er_12) (T := et_12) (N := 5) (ref := "PlateroomprinterModel") (index := 23) (ci := 12) (k := 3) hq_150 ho_150 ⟨rfl, by decide, ei_12, (List.mem_of_getElem? (i := 1961) (by decide +kernel)), .inl rfl⟩ (by decide +kernel) rfl
theorem t_150_18 : e_Sn 150 18 (o_push (.inl 2147483650) 19) := s_iconst (n := (2)) hq_150 (by decide +kernel) rfl ⟨by decide +kernel, by decide +kernel⟩
theorem t_150_19 : e_Sn 150 19 (o_load e_okI 3 20) := s_iload (i := .iload_n 3) (len := 1) hq_150 (by decide +kernel) rfl (.inr ⟨3, rfl, rfl, rfl⟩)
theorem t_150_20 : e_Sn 150 20 (o_ast 0 e_okI 21) := s_iast hq_150 (by decide +kernel) rfl
theorem t_150_21 : e_Sn 150 21 (o_load e_okI 1 22) := s_iload (i := .iload_n 1) (len := 1) hq_150 (by decide +kernel) rfl (.inr ⟨1, rfl, rfl, rfl⟩)
theorem t_150_22 : e_Sn 150 22 (o_ret e_okI) := s_iret hq_150 hr_150 (by decide +kernel)
noncomputable def e_tb_150 : e_X := (e_br 12 (e_br 6 (e_br 4 (e_br 1 (e_lf 0 (o_load e_okR 0 1)) (e_lf 1 (o_getf (e_f1 12 3) 4))) (e_br 5 (e_lf 4 (o_push (.inl 2147483648) 5)) (e_lf 5 (o_load e_okI 1 6)))) (e_br 8 (e_br 7 (e_lf 6 (o_ast 0 e_okI 7)) (e_lf 7 (o_load e_okR 0 8))) (e_br 11 (e_lf 8 (o_getf (e_f1 12 3) 11)) (e_lf 11 (o_push (.inl 2147483649) 12))))) (e_br 18 (e_br 14 (e_br 13 (e_lf 12 (o_load e_okI 2 13)) (e_lf 13 (o_ast 0 e_okI 14))) (e_br 15 (e_lf 14 (o_load e_okR 0 15)) (e_lf 15 (o_getf (e_f1 12 3) 18)))) (e_br 20 (e_br 19 (e_lf 18 (o_push (.inl 2147483650) 19)) (e_lf 19 (o_load e_okI 3 20))) (e_br 21 (e_lf 20 (o_ast 0 e_okI 21)) (e_br 22 (e_lf 21 (o_load e_okI 1 22)) (e_lf 22 (o_ret e_okI)))))))
theorem e_tk_150 : e_Tb 150 e_tb_150 := (e_brT (e_brT (e_brT (e_brT (e_lfT t_150_0) (e_lfT t_150_1)) (e_brT (e_lfT t_150_4) (e_lfT t_150_5))) (e_brT (e_brT (e_lfT t_150_6) (e_lfT t_150_7)) (e_brT (e_lfT t_150_8) (e_lfT t_150_11)))) (e_brT (e_brT (e_brT (e_lfT t_150_12) (e_lfT t_150_13)) (e_brT (e_lfT t_150_14) (e_lfT t_150_15))) (e_brT (e_brT (e_lfT t_150_18) (e_lfT t_150_19)) (e_brT (e_lfT t_150_20) (e_brT (e_lfT t_150_21) (e_lfT t_150_22))))))
theorem hq_151 : (e_ml[151]?).map (·.2.1) = some prog_14_method_36_code := rfl
theorem ho_151 : (e_ml[151]?).map (·.1.cls) = some "PlateroomprinterModel" := rfl
theorem hr_151 : (e_ml[151]?).map (·.2.2.2) = some (some .int) := rfl
theorem t_151_0 : e_Sn 151 0 (o_load e_okR 0 1) := s_aload (i := .aload_n 0) (len := 1) hq_151 (by decide +kernel) rfl (.inr ⟨0, rfl, rfl, rfl⟩)
theorem t_151_1 : e_Sn 151 1 (o_load e_okI 1 2) := s_iload (i := .iload_n 1) (len := 1) hq_151 (by decide +kernel) rfl (.inr ⟨1, rfl, rfl, rfl⟩)
theorem t_151_2 : e_Sn 151 2 (o_i2l 3) := s_i2l hq_151 (by decide +kernel) rfl
theorem t_151_3 : e_Sn 151 3 (o_push (e_L 9223372036854775808) 4) := s_lconst (n := 0) hq_151 (by decide +kernel) rfl ⟨by decide +kernel, by decide +kernel⟩
theorem t_151_4 : e_Sn 151 4 (o_push (e_L 9223372036854775810) 7) := s_ldc2 (index := 69) (v := (2)) hq_151 ho_151 (List.mem_of_getElem? (i := 2377) (by decide +kernel)) (by decide +kernel) rfl ⟨by decide +kernel, by decide +kernel⟩
theorem t_151_7 : e_Sn 151 7 (o_callS 162 6 3 10) := s_callS (index := 136) hq_151 ho_151 hy_162 hp_162 hc_162 hi_162 hd_162 (List.mem_of_getElem? (i := 1987) (by decide +kernel)) hs_162 (by decide +kernel) rfl
theorem t_151_10 : e_Sn 151 10 (o_ifeq 13 17) := s_ifne (off := (7)) hq_151 (by decide +kernel) rfl rfl
theorem t_151_13 : e_Sn 151 13 (o_push (.inl 2147483649) 14) := s_iconst (n := (1)) hq_151 (by decide +kernel) rfl ⟨by decide +kernel, by decide +kernel⟩
theorem t_151_14 : e_Sn 151 14 (o_goto 18) := s_goto (off := (4)) hq_151 (by decide +kernel) rfl
theorem t_151_17 : e_Sn 151 17 (o_push (.inl 2147483648) 18) := s_iconst (n := (0)) hq_151 (by decide +kernel) rfl ⟨by decide +kernel, by decide +kernel⟩
theorem t_151_18 : e_Sn 151 18 (o_push (.inl 2147483649) 19) := s_iconst (n := (1)) hq_151 (by decide +kernel) rfl ⟨by decide +kernel, by decide +kernel⟩
theorem t_151_19 : e_Sn 151 19 (o_callV (e_s1 12 195 3) 3 22) := s_callV (ci := 12) (C := er_12) (T := et_12) (N := 5) (index := 148) hq_151 ho_151 hy_195 hp_195 hc_195 hi_195 hd_195 (List.mem_of_getElem? (i := 1992) (by decide +kernel)) hs_195 (List.mem_of_getElem? (i := 73) (by decide +kernel)) rfl (by decide +kernel) rfl
theorem t_151_22 : e_Sn 151 22 (o_ifeq 29 25) := s_ifeq (off := (7)) hq_151 (by decide +kernel) rfl rfl
theorem t_151_25 : e_Sn 151 25 (o_push (.inl 2147483648) 26) := s_iconst (n := (0)) hq_151 (by decide +kernel) rfl ⟨by decide +kernel, by decide +kernel⟩
theorem t_151_26 : e_Sn 151 26 (o_goto 35) := s_goto (off := (9)) hq_151 (by decide +kernel) rfl
theorem t_151_29 : e_Sn 151 29 (o_load e_okR 0 30) := s_aload (i := .aload_n 0) (len := 1) hq_151 (by decide +kernel) rfl (.inr ⟨0, rfl, rfl, rfl⟩)
theorem t_151_30 : e_Sn 151 30 (o_getf (e_f1 12 3) 33) := s_getf (C := er_12) (T := et_12) (N := 5) (ref := "PlateroomprinterModel") (index := 23) (ci := 12) (k := 3) hq_151 ho_151 ⟨rfl, by decide, ei_12, (List.mem_of_getElem? (i := 1961) (by decide +kernel)), .inl rfl⟩ (by decide +kernel) rfl
theorem t_151_33 : e_Sn 151 33 (o_load e_okI 1 34) := s_iload (i := .iload_n 1) (len := 1) hq_151 (by decide +kernel) rfl (.inr ⟨1, rfl, rfl, rfl⟩)
theorem t_151_34 : e_Sn 151 34 (o_ald e_fcs 35) := s_iald hq_151 (by decide +kernel) rfl
theorem t_151_35 : e_Sn 151 35 (o_ret e_okI) := s_iret hq_151 hr_151 (by decide +kernel)
noncomputable def e_tb_151 : e_X := (e_br 18 (e_br 7 (e_br 2 (e_br 1 (e_lf 0 (o_load e_okR 0 1)) (e_lf 1 (o_load e_okI 1 2))) (e_br 3 (e_lf 2 (o_i2l 3)) (e_br 4 (e_lf 3 (o_push (e_L 9223372036854775808) 4)) (e_lf 4 (o_push (e_L 9223372036854775810) 7))))) (e_br 13 (e_br 10 (e_lf 7 (o_callS 162 6 3 10)) (e_lf 10 (o_ifeq 13 17))) (e_br 14 (e_lf 13 (o_push (.inl 2147483649) 14)) (e_br 17 (e_lf 14 (o_goto 18)) (e_lf 17 (o_push (.inl 2147483648) 18)))))) (e_br 29 (e_br 22 (e_br 19 (e_lf 18 (o_push (.inl 2147483649) 19)) (e_lf 19 (o_callV (e_s1 12 195 3) 3 22))) (e_br 25 (e_lf 22 (o_ifeq 29 25)) (e_br 26 (e_lf 25 (o_push (.inl 2147483648) 26)) (e_lf 26 (o_goto 35))))) (e_br 33 (e_br 30 (e_lf 29 (o_load e_okR 0 30)) (e_lf 30 (o_getf (e_f1 12 3) 33))) (e_br 34 (e_lf 33 (o_load e_okI 1 34)) (e_br 35 (e_lf 34 (o_ald e_fcs 35)) (e_lf 35 (o_ret e_okI)))))))
theorem e_tk_151 : e_Tb 151 e_tb_151 := (e_brT (e_brT (e_brT (e_brT (e_lfT t_151_0) (e_lfT t_151_1)) (e_brT (e_lfT t_151_2) (e_brT (e_lfT t_151_3) (e_lfT t_151_4)))) (e_brT (e_brT (e_lfT t_151_7) (e_lfT t_151_10)) (e_brT (e_lfT t_151_13) (e_brT (e_lfT t_151_14) (e_lfT t_151_17))))) (e_brT (e_brT (e_brT (e_lfT t_151_18) (e_lfT t_151_19)) (e_brT (e_lfT t_151_22) (e_brT (e_lfT t_151_25) (e_lfT t_151_26)))) (e_brT (e_brT (e_lfT t_151_29) (e_lfT t_151_30)) (e_brT (e_lfT t_151_33) (e_brT (e_lfT t_151_34) (e_lfT t_151_35))))))
theorem hq_152 : (e_ml[152]?).map (·.2.1) = some prog_14_method_66_code := rfl
theorem ho_152 : (e_ml[152]?).map (·.1.cls) = some "PlateroomprinterModel" := rfl
theorem hr_152 : (e_ml[152]?).map (·.2.2.2) = some (some .int) := rfl
theorem t_152_0 : e_Sn 152 0 (o_load e_okR 0 1) := s_aload (i := .aload_n 0) (len := 1) hq_152 (by decide +kernel) rfl (.inr ⟨0, rfl, rfl, rfl⟩)
theorem t_152_1 : e_Sn 152 1 (o_load e_okI 1 2) := s_iload (i := .iload_n 1) (len := 1) hq_152 (by decide +kernel) rfl (.inr ⟨1, rfl, rfl, rfl⟩)
theorem t_152_2 : e_Sn 152 2 (o_i2l 3) := s_i2l hq_152 (by decide +kernel) rfl
theorem t_152_3 : e_Sn 152 3 (o_push (e_L 9223372036854775808) 4) := s_lconst (n := 0) hq_152 (by decide +kernel) rfl ⟨by decide +kernel, by decide +kernel⟩
theorem t_152_4 : e_Sn 152 4 (o_load e_okR 0 5) := s_aload (i := .aload_n 0) (len := 1) hq_152 (by decide +kernel) rfl (.inr ⟨0, rfl, rfl, rfl⟩)
theorem t_152_5 : e_Sn 152 5 (o_getf (e_f1 12 1) 8) := s_getf (C := er_12) (T := et_12) (N := 5) (ref := "PlateroomprinterModel") (index := 10) (ci := 12) (k := 1) hq_152 ho_152 ⟨rfl, by decide, ei_12, (List.mem_of_getElem? (i := 1959) (by decide +kernel)), .inl rfl⟩ (by decide +kernel) rfl
theorem t_152_8 : e_Sn 152 8 (o_getf (e_f1 13 5) 11) := s_getf (C := er_13) (T := et_13) (N := 13) (ref := "PlateroomprinterModel$Machine") (index := 311) (ci := 13) (k := 5) hq_152 ho_152 ⟨rfl, by decide, ei_13, (List.mem_of_getElem? (i := 1907) (by decide +kernel)), .inl rfl⟩ (by decide +kernel) rfl
theorem t_152_11 : e_Sn 152 11 (o_callV (e_s1 18 234 1) 1 14) := s_callV (ci := 18) (C := er_18) (T := et_18) (N := 3) (index := 74) hq_152 ho_152 hy_234 hp_234 hc_234 hi_234 hd_234 (List.mem_of_getElem? (i := 2000) (by decide +kernel)) hs_234 (List.mem_of_getElem? (i := 2002) (by decide +kernel)) rfl (by decide +kernel) rfl
theorem t_152_14 : e_Sn 152 14 (o_push (.inl 2147483649) 15) := s_iconst (n := (1)) hq_152 (by decide +kernel) rfl ⟨by decide +kernel, by decide +kernel⟩
theorem t_152_15 : e_Sn 152 15 (o_isub 16) := s_isub hq_152 (by decide +kernel) rfl
theorem t_152_16 : e_Sn 152 16 (o_i2l 17) := s_i2l hq_152 (by decide +kernel) rfl
theorem t_152_17 : e_Sn 152 17 (o_callS 162 6 3 20) := s_callS (index := 136) hq_152 ho_152 hy_162 hp_162 hc_162 hi_162 hd_162 (List.mem_of_getElem? (i := 1987) (by decide +kernel)) hs_162 (by decide +kernel) rfl
theorem t_152_20 : e_Sn 152 20 (o_ifeq 23 27) := s_ifne (off := (7)) hq_152 (by decide +kernel) rfl rfl
theorem t_152_23 : e_Sn 152 23 (o_push (.inl 2147483649) 24) := s_iconst (n := (1)) hq_152 (by decide +kernel) rfl ⟨by decide +kernel, by decide +kernel⟩
theorem t_152_24 : e_Sn 152 24 (o_goto 28) := s_goto (off := (4)) hq_152 (by decide +kernel) rfl
theorem t_152_28 : e_Sn 152 28 (o_push (.inl 2147483649) 29) := s_iconst (n := (1)) hq_152 (by decide +kernel) rfl ⟨by decide +kernel, by decide +kernel⟩
theorem t_152_29 : e_Sn 152 29 (o_callV (e_s1 12 195 3) 3 32) := s_callV (ci := 12) (C := er_12) (T := et_12) (N := 5) (index := 148) hq_152 ho_152 hy_195 hp_195 hc_195 hi_195 hd_195 (List.mem_of_getElem? (i := 1992) (by decide +kernel)) hs_195 (List.mem_of_getElem? (i := 73) (by decide +kernel)) rfl (by decide +kernel) rfl
theorem t_152_32 : e_Sn 152 32 (o_ifeq 35 60) := s_ifne (off := (28)) hq_152 (by decide +kernel) rfl rfl
theorem t_152_60 : e_Sn 152 60 (o_push (.inl 2147483648) 61) := s_iconst (n := (0)) hq_152 (by decide +kernel) rfl ⟨by decide +kernel, by decide +kernel⟩
theorem t_152_61 : e_Sn 152 61 (o_goto 70) := s_goto (off := (9)) hq_152 (by decide +kernel) rfl
theorem t_152_70 : e_Sn 152 70 (o_ret e_okI) := s_iret hq_152 hr_152 (by decide +kernel)
noncomputable def e_tb_152 : e_X := (e_br 16 (e_br 5 (e_br 2 (e_br 1 (e_lf 0 (o_load e_okR 0 1)) (e_lf 1 (o_load e_okI 1 2))) (e_br 3 (e_lf 2 (o_i2l 3)) (e_br 4 (e_lf 3 (o_push (e_L 9223372036854775808) 4)) (e_lf 4 (o_load e_okR 0 5))))) (e_br 11 (e_br 8 (e_lf 5 (o_getf (e_f1 12 1) 8)) (e_lf 8 (o_getf (e_f1 13 5) 11))) (e_br 14 (e_lf 11 (o_callV (e_s1 18 234 1) 1 14)) (e_br 15 (e_lf 14 (o_push (.inl 2147483649) 15)) (e_lf 15 (o_isub 16)))))) (e_br 28 (e_br 20 (e_br 17 (e_lf 16 (o_i2l 17)) (e_lf 17 (o_callS 162 6 3 20))) (e_br 23 (e_lf 20 (o_ifeq 23 27)) (e_br 24 (e_lf 23 (o_push (.inl 2147483649) 24)) (e_lf 24 (o_goto 28))))) (e_br 60 (e_br 29 (e_lf 28 (o_push (.inl 2147483649) 29)) (e_br 32 (e_lf 29 (o_callV (e_s1 12 195 3) 3 32)) (e_lf 32 (o_ifeq 35 60)))) (e_br 61 (e_lf 60 (o_push (.inl 2147483648) 61)) (e_br 70 (e_lf 61 (o_goto 70)) (e_lf 70 (o_ret e_okI)))))))
theorem e_tk_152 : e_Tb 152 e_tb_152 := (e_brT (e_brT (e_brT (e_brT (e_lfT t_152_0) (e_lfT t_152_1)) (e_brT (e_lfT t_152_2) (e_brT (e_lfT t_152_3) (e_lfT t_152_4)))) (e_brT (e_brT (e_lfT t_152_5) (e_lfT t_152_8)) (e_brT (e_lfT t_152_11) (e_brT (e_lfT t_152_14) (e_lfT t_152_15))))) (e_brT (e_brT (e_brT (e_lfT t_152_16) (e_lfT t_152_17)) (e_brT (e_lfT t_152_20) (e_brT (e_lfT t_152_23) (e_lfT t_152_24)))) (e_brT (e_brT (e_lfT t_152_28) (e_brT (e_lfT t_152_29) (e_lfT t_152_32))) (e_brT (e_lfT t_152_60) (e_brT (e_lfT t_152_61) (e_lfT t_152_70))))))
theorem hq_153 : (e_ml[153]?).map (·.2.1) = some prog_14_method_64_code := rfl
theorem ho_153 : (e_ml[153]?).map (·.1.cls) = some "PlateroomprinterModel" := rfl
theorem hr_153 : (e_ml[153]?).map (·.2.2.2) = some (some .int) := rfl
theorem t_153_0 : e_Sn 153 0 (o_load e_okR 0 1) := s_aload (i := .aload_n 0) (len := 1) hq_153 (by decide +kernel) rfl (.inr ⟨0, rfl, rfl, rfl⟩)
theorem t_153_1 : e_Sn 153 1 (o_push (.inl 2147483648) 2) := s_iconst (n := (0)) hq_153 (by decide +kernel) rfl ⟨by decide +kernel, by decide +kernel⟩
theorem t_153_2 : e_Sn 153 2 (o_putf (e_f1 12 0) e_okI 5) := s_putf (ty0 := ey_12) (ok := e_okI) (C := er_12) (T := et_12) (N := 5) (ref := "PlateroomprinterModel") (index := 124) (ci := 12) (k := 0) hq_153 ho_153 ⟨rfl, by decide, ei_12, (List.mem_of_getElem? (i := 1958) (by decide +kernel)), .inl rfl⟩ eo_12 en_12 e_oksI (.inl rfl) (by decide +kernel) rfl
theorem t_153_5 : e_Sn 153 5 (o_load e_okR 0 6) := s_aload (i := .aload_n 0) (len := 1) hq_153 (by decide +kernel) rfl (.inr ⟨0, rfl, rfl, rfl⟩)
theorem t_153_6 : e_Sn 153 6 (o_getf (e_f1 12 1) 9) := s_getf (C := er_12) (T := et_12) (N := 5) (ref := "PlateroomprinterModel") (index := 10) (ci := 12) (k := 1) hq_153 ho_153 ⟨rfl, by decide, ei_12, (List.mem_of_getElem? (i := 1959) (by decide +kernel)), .inl rfl⟩ (by decide +kernel) rfl
theorem t_153_9 : e_Sn 153 9 (o_getf (e_f1 13 5) 12) := s_getf (C := er_13) (T := et_13) (N := 13) (ref := "PlateroomprinterModel$Machine") (index := 311) (ci := 13) (k := 5) hq_153 ho_153 ⟨rfl, by decide, ei_13, (List.mem_of_getElem? (i := 1907) (by decide +kernel)), .inl rfl⟩ (by decide +kernel) rfl
theorem t_153_12 : e_Sn 153 12 (o_callV (e_s1 18 234 1) 1 15) := s_callV (ci := 18) (C := er_18) (T := et_18) (N := 3) (index := 74) hq_153 ho_153 hy_234 hp_234 hc_234 hi_234 hd_234 (List.mem_of_getElem? (i := 2000) (by decide +kernel)) hs_234 (List.mem_of_getElem? (i := 2002) (by decide +kernel)) rfl (by decide +kernel) rfl
theorem t_153_15 : e_Sn 153 15 (o_ret e_okI) := s_iret hq_153 hr_153 (by decide +kernel)
noncomputable def e_tb_153 : e_X := (e_br 6 (e_br 2 (e_br 1 (e_lf 0 (o_load e_okR 0 1)) (e_lf 1 (o_push (.inl 2147483648) 2))) (e_br 5 (e_lf 2 (o_putf (e_f1 12 0) e_okI 5)) (e_lf 5 (o_load e_okR 0 6)))) (e_br 12 (e_br 9 (e_lf 6 (o_getf (e_f1 12 1) 9)) (e_lf 9 (o_getf (e_f1 13 5) 12))) (e_br 15 (e_lf 12 (o_callV (e_s1 18 234 1) 1 15)) (e_lf 15 (o_ret e_okI)))))
theorem e_tk_153 : e_Tb 153 e_tb_153 := (e_brT (e_brT (e_brT (e_lfT t_153_0) (e_lfT t_153_1)) (e_brT (e_lfT t_153_2) (e_lfT t_153_5))) (e_brT (e_brT (e_lfT t_153_6) (e_lfT t_153_9)) (e_brT (e_lfT t_153_12) (e_lfT t_153_15))))
theorem hq_154 : (e_ml[154]?).map (·.2.1) = some prog_14_method_55_code := rfl
theorem ho_154 : (e_ml[154]?).map (·.1.cls) = some "PlateroomprinterModel" := rfl
theorem hr_154 : (e_ml[154]?).map (·.2.2.2) = some (some .int) := rfl
theorem t_154_0 : e_Sn 154 0 (o_load e_okR 0 1) := s_aload (i := .aload_n 0) (len := 1) hq_154 (by decide +kernel) rfl (.inr ⟨0, rfl, rfl, rfl⟩)
theorem t_154_1 : e_Sn 154 1 (o_load e_okI 1 2) := s_iload (i := .iload_n 1) (len := 1) hq_154 (by decide +kernel) rfl (.inr ⟨1, rfl, rfl, rfl⟩)
theorem t_154_2 : e_Sn 154 2 (o_i2l 3) := s_i2l hq_154 (by decide +kernel) rfl
theorem t_154_3 : e_Sn 154 3 (o_push (e_L 9223372036854775808) 4) := s_lconst (n := 0) hq_154 (by decide +kernel) rfl ⟨by decide +kernel, by decide +kernel⟩
theorem t_154_4 : e_Sn 154 4 (o_push (e_L 9223372036854775812) 7) := s_ldc2 (index := 281) (v := (4)) hq_154 ho_154 (List.mem_of_getElem? (i := 2997) (by decide +kernel)) (by decide +kernel) rfl ⟨by decide +kernel, by decide +kernel⟩
theorem t_154_7 : e_Sn 154 7 (o_callS 162 6 3 10) := s_callS (index := 136) hq_154 ho_154 hy_162 hp_162 hc_162 hi_162 hd_162 (List.mem_of_getElem? (i := 1987) (by decide +kernel)) hs_162 (by decide +kernel) rfl
theorem t_154_10 : e_Sn 154 10 (o_ifeq 13 17) := s_ifne (off := (7)) hq_154 (by decide +kernel) rfl rfl
theorem t_154_13 : e_Sn 154 13 (o_push (.inl 2147483649) 14) := s_iconst (n := (1)) hq_154 (by decide +kernel) rfl ⟨by decide +kernel, by decide +kernel⟩
theorem t_154_14 : e_Sn 154 14 (o_goto 18) := s_goto (off := (4)) hq_154 (by decide +kernel) rfl
theorem t_154_17 : e_Sn 154 17 (o_push (.inl 2147483648) 18) := s_iconst (n := (0)) hq_154 (by decide +kernel) rfl ⟨by decide +kernel, by decide +kernel⟩
theorem t_154_18 : e_Sn 154 18 (o_push (.inl 2147483649) 19) := s_iconst (n := (1)) hq_154 (by decide +kernel) rfl ⟨by decide +kernel, by decide +kernel⟩
theorem t_154_19 : e_Sn 154 19 (o_callV (e_s1 12 195 3) 3 22) := s_callV (ci := 12) (C := er_12) (T := et_12) (N := 5) (index := 148) hq_154 ho_154 hy_195 hp_195 hc_195 hi_195 hd_195 (List.mem_of_getElem? (i := 1992) (by decide +kernel)) hs_195 (List.mem_of_getElem? (i := 73) (by decide +kernel)) rfl (by decide +kernel) rfl
theorem t_154_22 : e_Sn 154 22 (o_ifeq 25 50) := s_ifne (off := (28)) hq_154 (by decide +kernel) rfl rfl
theorem t_154_25 : e_Sn 154 25 (o_load e_okR 0 26) := s_aload (i := .aload_n 0) (len := 1) hq_154 (by decide +kernel) rfl (.inr ⟨0, rfl, rfl, rfl⟩)
theorem t_154_26 : e_Sn 154 26 (o_load e_okI 2 27) := s_iload (i := .iload_n 2) (len := 1) hq_154 (by decide +kernel) rfl (.inr ⟨2, rfl, rfl, rfl⟩)
theorem t_154_27 : e_Sn 154 27 (o_i2l 28) := s_i2l hq_154 (by decide +kernel) rfl
theorem t_154_28 : e_Sn 154 28 (o_push (e_L 9223372036854775808) 29) := s_lconst (n := 0) hq_154 (by decide +kernel) rfl ⟨by decide +kernel, by decide +kernel⟩
theorem t_154_29 : e_Sn 154 29 (o_push (e_L 9223372036854775810) 32) := s_ldc2 (index := 69) (v := (2)) hq_154 ho_154 (List.mem_of_getElem? (i := 2377) (by decide +kernel)) (by decide +kernel) rfl ⟨by decide +kernel, by decide +kernel⟩
theorem t_154_32 : e_Sn 154 32 (o_callS 162 6 3 35) := s_callS (index := 136) hq_154 ho_154 hy_162 hp_162 hc_162 hi_162 hd_162 (List.mem_of_getElem? (i := 1987) (by decide +kernel)) hs_162 (by decide +kernel) rfl
theorem t_154_35 : e_Sn 154 35 (o_ifeq 38 42) := s_ifne (off := (7)) hq_154 (by decide +kernel) rfl rfl
theorem t_154_38 : e_Sn 154 38 (o_push (.inl 2147483649) 39) := s_iconst (n := (1)) hq_154 (by decide +kernel) rfl ⟨by decide +kernel, by decide +kernel⟩
theorem t_154_39 : e_Sn 154 39 (o_goto 43) := s_goto (off := (4)) hq_154 (by decide +kernel) rfl
theorem t_154_42 : e_Sn 154 42 (o_push (.inl 2147483648) 43) := s_iconst (n := (0)) hq_154 (by decide +kernel) rfl ⟨by decide +kernel, by decide +kernel⟩
theorem t_154_43 : e_Sn 154 43 (o_push (.inl 2147483650) 44) := s_iconst (n := (2)) hq_154 (by decide +kernel) rfl ⟨by decide +kernel, by decide +kernel⟩
theorem t_154_44 : e_Sn 154 44 (o_callV (e_s1 12 187 3) 3 47) := s_callV (ci := 12) (C := er_12) (T := et_12) (N := 5) (index := 128) hq_154 ho_154 hy_187 hp_187 hc_187 hi_187 hd_187 (List.mem_of_getElem? (i := 1996) (by decide +kernel)) hs_187 (List.mem_of_getElem? (i := 74) (by decide +kernel)) rfl (by decide +kernel) rfl
theorem t_154_47 : e_Sn 154 47 (o_ifeq 54 50) := s_ifeq (off := (7)) hq_154 (by decide +kernel) rfl rfl
theorem t_154_50 : e_Sn 154 50 (o_push (.inl 2147483648) 51) := s_iconst (n := (0)) hq_154 (by decide +kernel) rfl ⟨by decide +kernel, by decide +kernel⟩
theorem t_154_51 : e_Sn 154 51 (o_goto 60) := s_goto (off := (9)) hq_154 (by decide +kernel) rfl
theorem t_154_54 : e_Sn 154 54 (o_load e_okR 0 55) := s_aload (i := .aload_n 0) (len := 1) hq_154 (by decide +kernel) rfl (.inr ⟨0, rfl, rfl, rfl⟩)
theorem t_154_55 : e_Sn 154 55 (o_load e_okI 1 56) := s_iload (i := .iload_n 1) (len := 1) hq_154 (by decide +kernel) rfl (.inr ⟨1, rfl, rfl, rfl⟩)
theorem t_154_56 : e_Sn 154 56 (o_load e_okI 2 57) := s_iload (i := .iload_n 2) (len := 1) hq_154 (by decide +kernel) rfl (.inr ⟨2, rfl, rfl, rfl⟩)
theorem t_154_57 : e_Sn 154 57 (o_callV (e_s1 12 155 4) 3 60) := s_callV (ci := 12) (C := er_12) (T := et_12) (N := 5) (index := 283) hq_154 ho_154 hy_155 hp_155 hc_155 hi_155 hd_155 (List.mem_of_getElem? (i := 2998) (by decide +kernel)) hs_155 (List.mem_of_getElem? (i := 130) (by decide +kernel)) rfl (by decide +kernel) rfl
theorem t_154_60 : e_Sn 154 60 (o_ret e_okI) := s_iret hq_154 hr_154 (by decide +kernel)
noncomputable def e_tb_154 : e_X := (e_br 28 (e_br 14 (e_br 4 (e_br 2 (e_br 1 (e_lf 0 (o_load e_okR 0 1)) (e_lf 1 (o_load e_okI 1 2))) (e_br 3 (e_lf 2 (o_i2l 3)) (e_lf 3 (o_push (e_L 9223372036854775808) 4)))) (e_br 10 (e_br 7 (e_lf 4 (o_push (e_L 9223372036854775812) 7)) (e_lf 7 (o_callS 162 6 3 10))) (e_br 13 (e_lf 10 (o_ifeq 13 17)) (e_lf 13 (o_push (.inl 2147483649) 14))))) (e_br 22 (e_br 18 (e_br 17 (e_lf 14 (o_goto 18)) (e_lf 17 (o_push (.inl 2147483648) 18))) (e_br 19 (e_lf 18 (o_push (.inl 2147483649) 19)) (e_lf 19 (o_callV (e_s1 12 195 3) 3 22)))) (e_br 26 (e_br 25 (e_lf 22 (o_ifeq 25 50)) (e_lf 25 (o_load e_okR 0 26))) (e_br 27 (e_lf 26 (o_load e_okI 2 27)) (e_lf 27 (o_i2l 28)))))) (e_br 44 (e_br 38 (e_br 32 (e_br 29 (e_lf 28 (o_push (e_L 9223372036854775808) 29)) (e_lf 29 (o_push (e_L 9223372036854775810) 32))) (e_br 35 (e_lf 32 (o_callS 162 6 3 35)) (e_lf 35 (o_ifeq 38 42)))) (e_br 42 (e_br 39 (e_lf 38 (o_push (.inl 2147483649) 39)) (e_lf 39 (o_goto 43))) (e_br 43 (e_lf 42 (o_push (.inl 2147483648) 43)) (e_lf 43 (o_push (.inl 2147483650) 44))))) (e_br 54 (e_br 50 (e_br 47 (e_lf 44 (o_callV (e_s1 12 187 3) 3 47)) (e_lf 47 (o_ifeq 54 50))) (e_br 51 (e_lf 50 (o_push (.inl 2147483648) 51)) (e_lf 51 (o_goto 60)))) (e_br 56 (e_br 55 (e_lf 54 (o_load e_okR 0 55)) (e_lf 55 (o_load e_okI 1 56))) (e_br 57 (e_lf 56 (o_load e_okI 2 57)) (e_br 60 (e_lf 57 (o_callV (e_s1 12 155 4) 3 60)) (e_lf 60 (o_ret e_okI))))))))
theorem e_tk_154 : e_Tb 154 e_tb_154 := (e_brT (e_brT (e_brT (e_brT (e_brT (e_lfT t_154_0) (e_lfT t_154_1)) (e_brT (e_lfT t_154_2) (e_lfT t_154_3))) (e_brT (e_brT (e_lfT t_154_4) (e_lfT t_154_7)) (e_brT (e_lfT t_154_10) (e_lfT t_154_13)))) (e_brT (e_brT (e_brT (e_lfT t_154_14) (e_lfT t_154_17)) (e_brT (e_lfT t_154_18) (e_lfT t_154_19))) (e_brT (e_brT (e_lfT t_154_22) (e_lfT t_154_25)) (e_brT (e_lfT t_154_26) (e_lfT t_154_27))))) (e_brT (e_brT (e_brT (e_brT (e_lfT t_154_28) (e_lfT t_154_29)) (e_brT (e_lfT t_154_32) (e_lfT t_154_35))) (e_brT (e_brT (e_lfT t_154_38) (e_lfT t_154_39)) (e_brT (e_lfT t_154_42) (e_lfT t_154_43)))) (e_brT (e_brT (e_brT (e_lfT t_154_44) (e_lfT t_154_47)) (e_brT (e_lfT t_154_50) (e_lfT t_154_51))) (e_brT (e_brT (e_lfT t_154_54) (e_lfT t_154_55)) (e_brT (e_lfT t_154_56) (e_brT (e_lfT t_154_57) (e_lfT t_154_60)))))))
theorem hq_155 : (e_ml[155]?).map (·.2.1) = some prog_14_method_54_code := rfl
theorem ho_155 : (e_ml[155]?).map (·.1.cls) = some "PlateroomprinterModel" := rfl
theorem hr_155 : (e_ml[155]?).map (·.2.2.2) = some (some .int) := rfl
theorem t_155_0 : e_Sn 155 0 (o_load e_okR 0 1) := s_aload (i := .aload_n 0) (len := 1) hq_155 (by decide +kernel) rfl (.inr ⟨0, rfl, rfl, rfl⟩)
theorem t_155_1 : e_Sn 155 1 (o_getf (e_f1 12 1) 4) := s_getf (C := er_12) (T := et_12) (N := 5) (ref := "PlateroomprinterModel") (index := 10) (ci := 12) (k := 1) hq_155 ho_155 ⟨rfl, by decide, ei_12, (List.mem_of_getElem? (i := 1959) (by decide +kernel)), .inl rfl⟩ (by decide +kernel) rfl
theorem t_155_4 : e_Sn 155 4 (o_getf (e_f1 13 4) 7) := s_getf (C := er_13) (T := et_13) (N := 13) (ref := "PlateroomprinterModel$Machine") (index := 278) (ci := 13) (k := 4) hq_155 ho_155 ⟨rfl, by decide, ei_13, (List.mem_of_getElem? (i := 1904) (by decide +kernel)), .inl rfl⟩ (by decide +kernel) rfl
theorem t_155_7 : e_Sn 155 7 (o_load e_okI 1 8) := s_iload (i := .iload_n 1) (len := 1) hq_155 (by decide +kernel) rfl (.inr ⟨1, rfl, rfl, rfl⟩)
theorem t_155_8 : e_Sn 155 8 (o_callV (e_s1 18 227 2) 2 11) := s_callV (ci := 18) (C := er_18) (T := et_18) (N := 3) (index := 78) hq_155 ho_155 hy_227 hp_227 hc_227 hi_227 hd_227 (List.mem_of_getElem? (i := 2066) (by decide +kernel)) hs_227 (List.mem_of_getElem? (i := 2051) (by decide +kernel)) rfl (by decide +kernel) rfl
theorem t_155_11 : e_Sn 155 11 (o_cast 18 14) := s_cast (index := 16) hq_155 ho_155 (List.mem_of_getElem? (i := 1956) (by decide +kernel)) (.inl ⟨by decide, rfl⟩) (by decide +kernel) rfl
theorem t_155_14 : e_Sn 155 14 (o_store e_okR 3 15) := s_astore (i := .astore_n 3) (len := 1) hq_155 (by decide +kernel) rfl (.inr ⟨3, rfl, rfl, rfl⟩)
theorem t_155_15 : e_Sn 155 15 (o_load e_okR 3 16) := s_aload (i := .aload_n 3) (len := 1) hq_155 (by decide +kernel) rfl (.inr ⟨3, rfl, rfl, rfl⟩)
theorem t_155_16 : e_Sn 155 16 (o_null 19 21) := s_ifnonnull (off := (5)) hq_155 (by decide +kernel) rfl rfl
theorem t_155_19 : e_Sn 155 19 (o_push (.inl 2147483648) 20) := s_iconst (n := (0)) hq_155 (by decide +kernel) rfl ⟨by decide +kernel, by decide +kernel⟩
theorem t_155_20 : e_Sn 155 20 (o_ret e_okI) := s_iret hq_155 hr_155 (by decide +kernel)
noncomputable def e_tb_155 : e_X := (e_br 11 (e_br 4 (e_br 1 (e_lf 0 (o_load e_okR 0 1)) (e_lf 1 (o_getf (e_f1 12 1) 4))) (e_br 7 (e_lf 4 (o_getf (e_f1 13 4) 7)) (e_br 8 (e_lf 7 (o_load e_okI 1 8)) (e_lf 8 (o_callV (e_s1 18 227 2) 2 11))))) (e_br 16 (e_br 14 (e_lf 11 (o_cast 18 14)) (e_br 15 (e_lf 14 (o_store e_okR 3 15)) (e_lf 15 (o_load e_okR 3 16)))) (e_br 19 (e_lf 16 (o_null 19 21)) (e_br 20 (e_lf 19 (o_push (.inl 2147483648) 20)) (e_lf 20 (o_ret e_okI))))))
theorem e_tk_155 : e_Tb 155 e_tb_155 := (e_brT (e_brT (e_brT (e_lfT t_155_0) (e_lfT t_155_1)) (e_brT (e_lfT t_155_4) (e_brT (e_lfT t_155_7) (e_lfT t_155_8)))) (e_brT (e_brT (e_lfT t_155_11) (e_brT (e_lfT t_155_14) (e_lfT t_155_15))) (e_brT (e_lfT t_155_16) (e_brT (e_lfT t_155_19) (e_lfT t_155_20)))))
theorem hq_156 : (e_ml[156]?).map (·.2.1) = some prog_14_method_32_code := rfl
theorem ho_156 : (e_ml[156]?).map (·.1.cls) = some "PlateroomprinterModel" := rfl
theorem hr_156 : (e_ml[156]?).map (·.2.2.2) = some (some .int) := rfl
theorem t_156_0 : e_Sn 156 0 (o_load e_okR 0 1) := s_aload (i := .aload_n 0) (len := 1) hq_156 (by decide +kernel) rfl (.inr ⟨0, rfl, rfl, rfl⟩)
theorem t_156_1 : e_Sn 156 1 (o_push (.inl 2147483648) 2) := s_iconst (n := (0)) hq_156 (by decide +kernel) rfl ⟨by decide +kernel, by decide +kernel⟩
theorem t_156_2 : e_Sn 156 2 (o_putf (e_f1 12 0) e_okI 5) := s_putf (ty0 := ey_12) (ok := e_okI) (C := er_12) (T := et_12) (N := 5) (ref := "PlateroomprinterModel") (index := 124) (ci := 12) (k := 0) hq_156 ho_156 ⟨rfl, by decide, ei_12, (List.mem_of_getElem? (i := 1958) (by decide +kernel)), .inl rfl⟩ eo_12 en_12 e_oksI (.inl rfl) (by decide +kernel) rfl
theorem t_156_5 : e_Sn 156 5 (o_load e_okR 0 6) := s_aload (i := .aload_n 0) (len := 1) hq_156 (by decide +kernel) rfl (.inr ⟨0, rfl, rfl, rfl⟩)
theorem t_156_6 : e_Sn 156 6 (o_getf (e_f1 12 1) 9) := s_getf (C := er_12) (T := et_12) (N := 5) (ref := "PlateroomprinterModel") (index := 10) (ci := 12) (k := 1) hq_156 ho_156 ⟨rfl, by decide, ei_12, (List.mem_of_getElem? (i := 1959) (by decide +kernel)), .inl rfl⟩ (by decide +kernel) rfl
theorem t_156_9 : e_Sn 156 9 (o_getf (e_f1 13 8) 12) := s_getf (C := er_13) (T := et_13) (N := 13) (ref := "PlateroomprinterModel$Machine") (index := 181) (ci := 13) (k := 8) hq_156 ho_156 ⟨rfl, by decide, ei_13, (List.mem_of_getElem? (i := 1915) (by decide +kernel)), .inl rfl⟩ (by decide +kernel) rfl
theorem t_156_12 : e_Sn 156 12 (o_store e_okI 1 13) := s_istore (i := .istore_n 1) (len := 1) hq_156 (by decide +kernel) rfl (.inr ⟨1, rfl, rfl, rfl⟩)
theorem t_156_13 : e_Sn 156 13 (o_load e_okR 0 14) := s_aload (i := .aload_n 0) (len := 1) hq_156 (by decide +kernel) rfl (.inr ⟨0, rfl, rfl, rfl⟩)
theorem t_156_14 : e_Sn 156 14 (o_new 13 13 ef_13 17) := s_new (index := 7) (ci := 13) (N := 13) (C := er_13) (T := et_13) (ty0 := ey_13) (fv := eg_13) hq_156 ho_156 rfl ei_13 eo_13 (List.mem_of_getElem? (i := 1744) (by decide +kernel)) (List.mem_of_getElem? (i := 1745) (by decide +kernel)) (List.mem_of_getElem? (i := 152) (by decide +kernel)) eh_13 rfl (e_newrel ek_13) (by decide +kernel) rfl
theorem t_156_17 : e_Sn 156 17 (o_dup 18) := s_dup hq_156 (by decide +kernel) rfl
theorem t_156_18 : e_Sn 156 18 (o_callI 204 2 1 21) := s_callI (index := 9) hq_156 ho_156 hy_204 hp_204 hc_204 hi_204 hd_204 (List.mem_of_getElem? (i := 1746) (by decide +kernel)) rfl rfl hs_204 (by decide +kernel) rfl
theorem t_156_21 : e_Sn 156 21 (o_putf (e_f1 12 1) e_okR 24) := s_putf (ty0 := ey_12) (ok := e_okR) (C := er_12) (T := et_12) (N := 5) (ref := "PlateroomprinterModel") (index := 10) (ci := 12) (k := 1) hq_156 ho_156 ⟨rfl, by decide, ei_12, (List.mem_of_getElem? (i := 1959) (by decide +kernel)), .inl rfl⟩ eo_12 en_12 e_oksR (.inl rfl) (by decide +kernel) rfl
theorem t_156_24 : e_Sn 156 24 (o_load e_okR 0 25) := s_aload (i := .aload_n 0) (len := 1) hq_156 (by decide +kernel) rfl (.inr ⟨0, rfl, rfl, rfl⟩)
theorem t_156_25 : e_Sn 156 25 (o_push (.inl 2147483648) 26) := s_iconst (n := (0)) hq_156 (by decide +kernel) rfl ⟨by decide +kernel, by decide +kernel⟩
theorem t_156_26 : e_Sn 156 26 (o_push (.inl 2147483647) 27) := s_iconst (n := (-1)) hq_156 (by decide +kernel) rfl ⟨by decide +kernel, by decide +kernel⟩
theorem t_156_27 : e_Sn 156 27 (o_push (.inl 2147483647) 28) := s_iconst (n := (-1)) hq_156 (by decide +kernel) rfl ⟨by decide +kernel, by decide +kernel⟩
theorem t_156_28 : e_Sn 156 28 (o_callV (e_s1 12 150 4) 4 31) := s_callV (ci := 12) (C := er_12) (T := et_12) (N := 5) (index := 177) hq_156 ho_156 hy_150 hp_150 hc_150 hi_150 hd_150 (List.mem_of_getElem? (i := 2891) (by decide +kernel)) hs_150 (List.mem_of_getElem? (i := 121) (by decide +kernel)) rfl (by decide +kernel) rfl
theorem t_156_31 : e_Sn 156 31 (o_pop 32) := s_pop hq_156 (by decide +kernel) rfl
theorem t_156_32 : e_Sn 156 32 (o_load e_okI 1 33) := s_iload (i := .iload_n 1) (len := 1) hq_156 (by decide +kernel) rfl (.inr ⟨1, rfl, rfl, rfl⟩)
theorem t_156_33 : e_Sn 156 33 (o_ret e_okI) := s_iret hq_156 hr_156 (by decide +kernel)
noncomputable def e_tb_156 : e_X := (e_br 18 (e_br 9 (e_br 2 (e_br 1 (e_lf 0 (o_load e_okR 0 1)) (e_lf 1 (o_push (.inl 2147483648) 2))) (e_br 5 (e_lf 2 (o_putf (e_f1 12 0) e_okI 5)) (e_br 6 (e_lf 5 (o_load e_okR 0 6)) (e_lf 6 (o_getf (e_f1 12 1) 9))))) (e_br 13 (e_br 12 (e_lf 9 (o_getf (e_f1 13 8) 12)) (e_lf 12 (o_store e_okI 1 13))) (e_br 14 (e_lf 13 (o_load e_okR 0 14)) (e_br 17 (e_lf 14 (o_new 13 13 ef_13 17)) (e_lf 17 (o_dup 18)))))) (e_br 27 (e_br 24 (e_br 21 (e_lf 18 (o_callI 204 2 1 21)) (e_lf 21 (o_putf (e_f1 12 1) e_okR 24))) (e_br 25 (e_lf 24 (o_load e_okR 0 25)) (e_br 26 (e_lf 25 (o_push (.inl 2147483648) 26)) (e_lf 26 (o_push (.inl 2147483647) 27))))) (e_br 31 (e_br 28 (e_lf 27 (o_push (.inl 2147483647) 28)) (e_lf 28 (o_callV (e_s1 12 150 4) 4 31))) (e_br 32 (e_lf 31 (o_pop 32)) (e_br 33 (e_lf 32 (o_load e_okI 1 33)) (e_lf 33 (o_ret e_okI)))))))
theorem e_tk_156 : e_Tb 156 e_tb_156 := (e_brT (e_brT (e_brT (e_brT (e_lfT t_156_0) (e_lfT t_156_1)) (e_brT (e_lfT t_156_2) (e_brT (e_lfT t_156_5) (e_lfT t_156_6)))) (e_brT (e_brT (e_lfT t_156_9) (e_lfT t_156_12)) (e_brT (e_lfT t_156_13) (e_brT (e_lfT t_156_14) (e_lfT t_156_17))))) (e_brT (e_brT (e_brT (e_lfT t_156_18) (e_lfT t_156_21)) (e_brT (e_lfT t_156_24) (e_brT (e_lfT t_156_25) (e_lfT t_156_26)))) (e_brT (e_brT (e_lfT t_156_27) (e_lfT t_156_28)) (e_brT (e_lfT t_156_31) (e_brT (e_lfT t_156_32) (e_lfT t_156_33))))))
theorem hq_157 : (e_ml[157]?).map (·.2.1) = some prog_14_method_63_code := rfl
theorem ho_157 : (e_ml[157]?).map (·.1.cls) = some "PlateroomprinterModel" := rfl
theorem hr_157 : (e_ml[157]?).map (·.2.2.2) = some (some .int) := rfl
theorem t_157_0 : e_Sn 157 0 (o_load e_okR 0 1) := s_aload (i := .aload_n 0) (len := 1) hq_157 (by decide +kernel) rfl (.inr ⟨0, rfl, rfl, rfl⟩)
theorem t_157_1 : e_Sn 157 1 (o_load e_okR 0 2) := s_aload (i := .aload_n 0) (len := 1) hq_157 (by decide +kernel) rfl (.inr ⟨0, rfl, rfl, rfl⟩)
theorem t_157_2 : e_Sn 157 2 (o_load e_okI 1 3) := s_iload (i := .iload_n 1) (len := 1) hq_157 (by decide +kernel) rfl (.inr ⟨1, rfl, rfl, rfl⟩)
theorem t_157_3 : e_Sn 157 3 (o_load e_okI 2 4) := s_iload (i := .iload_n 2) (len := 1) hq_157 (by decide +kernel) rfl (.inr ⟨2, rfl, rfl, rfl⟩)
theorem t_157_4 : e_Sn 157 4 (o_callV (e_s1 12 165 3) 3 7) := s_callV (ci := 12) (C := er_12) (T := et_12) (N := 5) (index := 275) hq_157 ho_157 hy_165 hp_165 hc_165 hi_165 hd_165 (List.mem_of_getElem? (i := 2989) (by decide +kernel)) hs_165 (List.mem_of_getElem? (i := 129) (by decide +kernel)) rfl (by decide +kernel) rfl
theorem t_157_7 : e_Sn 157 7 (o_ifeq 10 19) := s_ifne (off := (12)) hq_157 (by decide +kernel) rfl rfl
theorem t_157_19 : e_Sn 157 19 (o_push (.inl 2147483649) 20) := s_iconst (n := (1)) hq_157 (by decide +kernel) rfl ⟨by decide +kernel, by decide +kernel⟩
theorem t_157_20 : e_Sn 157 20 (o_goto 24) := s_goto (off := (4)) hq_157 (by decide +kernel) rfl
theorem t_157_24 : e_Sn 157 24 (o_push (.inl 2147483649) 25) := s_iconst (n := (1)) hq_157 (by decide +kernel) rfl ⟨by decide +kernel, by decide +kernel⟩
theorem t_157_25 : e_Sn 157 25 (o_callV (e_s1 12 195 3) 3 28) := s_callV (ci := 12) (C := er_12) (T := et_12) (N := 5) (index := 148) hq_157 ho_157 hy_195 hp_195 hc_195 hi_195 hd_195 (List.mem_of_getElem? (i := 1992) (by decide +kernel)) hs_195 (List.mem_of_getElem? (i := 73) (by decide +kernel)) rfl (by decide +kernel) rfl
theorem t_157_28 : e_Sn 157 28 (o_ifeq 31 62) := s_ifne (off := (34)) hq_157 (by decide +kernel) rfl rfl
theorem t_157_62 : e_Sn 157 62 (o_push (.inl 2147483648) 63) := s_iconst (n := (0)) hq_157 (by decide +kernel) rfl ⟨by decide +kernel, by decide +kernel⟩
theorem t_157_63 : e_Sn 157 63 (o_ret e_okI) := s_iret hq_157 hr_157 (by decide +kernel)
noncomputable def e_tb_157 : e_X := (e_br 19 (e_br 3 (e_br 1 (e_lf 0 (o_load e_okR 0 1)) (e_br 2 (e_lf 1 (o_load e_okR 0 2)) (e_lf 2 (o_load e_okI 1 3)))) (e_br 4 (e_lf 3 (o_load e_okI 2 4)) (e_br 7 (e_lf 4 (o_callV (e_s1 12 165 3) 3 7)) (e_lf 7 (o_ifeq 10 19))))) (e_br 25 (e_br 20 (e_lf 19 (o_push (.inl 2147483649) 20)) (e_br 24 (e_lf 20 (o_goto 24)) (e_lf 24 (o_push (.inl 2147483649) 25)))) (e_br 62 (e_br 28 (e_lf 25 (o_callV (e_s1 12 195 3) 3 28)) (e_lf 28 (o_ifeq 31 62))) (e_br 63 (e_lf 62 (o_push (.inl 2147483648) 63)) (e_lf 63 (o_ret e_okI))))))
theorem e_tk_157 : e_Tb 157 e_tb_157 := (e_brT (e_brT (e_brT (e_lfT t_157_0) (e_brT (e_lfT t_157_1) (e_lfT t_157_2))) (e_brT (e_lfT t_157_3) (e_brT (e_lfT t_157_4) (e_lfT t_157_7)))) (e_brT (e_brT (e_lfT t_157_19) (e_brT (e_lfT t_157_20) (e_lfT t_157_24))) (e_brT (e_brT (e_lfT t_157_25) (e_lfT t_157_28)) (e_brT (e_lfT t_157_62) (e_lfT t_157_63)))))
theorem hq_158 : (e_ml[158]?).map (·.2.1) = some prog_14_method_57_code := rfl
theorem ho_158 : (e_ml[158]?).map (·.1.cls) = some "PlateroomprinterModel" := rfl
theorem hr_158 : (e_ml[158]?).map (·.2.2.2) = some (some .boolean) := rfl
theorem t_158_0 : e_Sn 158 0 (o_load e_okR 0 1) := s_aload (i := .aload_n 0) (len := 1) hq_158 (by decide +kernel) rfl (.inr ⟨0, rfl, rfl, rfl⟩)
theorem t_158_1 : e_Sn 158 1 (o_load e_okI 1 2) := s_iload (i := .iload_n 1) (len := 1) hq_158 (by decide +kernel) rfl (.inr ⟨1, rfl, rfl, rfl⟩)
theorem t_158_2 : e_Sn 158 2 (o_load e_okI 2 3) := s_iload (i := .iload_n 2) (len := 1) hq_158 (by decide +kernel) rfl (.inr ⟨2, rfl, rfl, rfl⟩)
theorem t_158_3 : e_Sn 158 3 (o_callS 163 2 2 6) := s_callS (index := 288) hq_158 ho_158 hy_163 hp_163 hc_163 hi_163 hd_163 (List.mem_of_getElem? (i := 3006) (by decide +kernel)) hs_163 (by decide +kernel) rfl
theorem t_158_6 : e_Sn 158 6 (o_push (.inl 2147483649) 7) := s_iconst (n := (1)) hq_158 (by decide +kernel) rfl ⟨by decide +kernel, by decide +kernel⟩
theorem t_158_7 : e_Sn 158 7 (o_callV (e_s1 12 195 3) 3 10) := s_callV (ci := 12) (C := er_12) (T := et_12) (N := 5) (index := 148) hq_158 ho_158 hy_195 hp_195 hc_195 hi_195 hd_195 (List.mem_of_getElem? (i := 1992) (by decide +kernel)) hs_195 (List.mem_of_getElem? (i := 73) (by decide +kernel)) rfl (by decide +kernel) rfl
theorem t_158_10 : e_Sn 158 10 (o_ifeq 13 53) := s_ifne (off := (43)) hq_158 (by decide +kernel) rfl rfl
theorem t_158_13 : e_Sn 158 13 (o_load e_okR 0 14) := s_aload (i := .aload_n 0) (len := 1) hq_158 (by decide +kernel) rfl (.inr ⟨0, rfl, rfl, rfl⟩)
theorem t_158_14 : e_Sn 158 14 (o_load e_okI 3 15) := s_iload (i := .iload_n 3) (len := 1) hq_158 (by decide +kernel) rfl (.inr ⟨3, rfl, rfl, rfl⟩)
theorem t_158_15 : e_Sn 158 15 (o_i2l 16) := s_i2l hq_158 (by decide +kernel) rfl
theorem t_158_16 : e_Sn 158 16 (o_push (e_L 9223372036854775808) 17) := s_lconst (n := 0) hq_158 (by decide +kernel) rfl ⟨by decide +kernel, by decide +kernel⟩
theorem t_158_17 : e_Sn 158 17 (o_push (e_L 9223372036854775809) 18) := s_lconst (n := 1) hq_158 (by decide +kernel) rfl ⟨by decide +kernel, by decide +kernel⟩
theorem t_158_18 : e_Sn 158 18 (o_callS 162 6 3 21) := s_callS (index := 136) hq_158 ho_158 hy_162 hp_162 hc_162 hi_162 hd_162 (List.mem_of_getElem? (i := 1987) (by decide +kernel)) hs_162 (by decide +kernel) rfl
theorem t_158_21 : e_Sn 158 21 (o_ifeq 24 28) := s_ifne (off := (7)) hq_158 (by decide +kernel) rfl rfl
theorem t_158_24 : e_Sn 158 24 (o_push (.inl 2147483649) 25) := s_iconst (n := (1)) hq_158 (by decide +kernel) rfl ⟨by decide +kernel, by decide +kernel⟩
theorem t_158_25 : e_Sn 158 25 (o_goto 29) := s_goto (off := (4)) hq_158 (by decide +kernel) rfl
theorem t_158_28 : e_Sn 158 28 (o_push (.inl 2147483648) 29) := s_iconst (n := (0)) hq_158 (by decide +kernel) rfl ⟨by decide +kernel, by decide +kernel⟩
theorem t_158_29 : e_Sn 158 29 (o_push (.inl 2147483650) 30) := s_iconst (n := (2)) hq_158 (by decide +kernel) rfl ⟨by decide +kernel, by decide +kernel⟩
theorem t_158_30 : e_Sn 158 30 (o_callV (e_s1 12 187 3) 3 33) := s_callV (ci := 12) (C := er_12) (T := et_12) (N := 5) (index := 128) hq_158 ho_158 hy_187 hp_187 hc_187 hi_187 hd_187 (List.mem_of_getElem? (i := 1996) (by decide +kernel)) hs_187 (List.mem_of_getElem? (i := 74) (by decide +kernel)) rfl (by decide +kernel) rfl
theorem t_158_33 : e_Sn 158 33 (o_ifeq 36 53) := s_ifne (off := (20)) hq_158 (by decide +kernel) rfl rfl
theorem t_158_36 : e_Sn 158 36 (o_load e_okR 0 37) := s_aload (i := .aload_n 0) (len := 1) hq_158 (by decide +kernel) rfl (.inr ⟨0, rfl, rfl, rfl⟩)
theorem t_158_37 : e_Sn 158 37 (o_callV (e_s1 12 184 1) 1 40) := s_callV (ci := 12) (C := er_12) (T := et_12) (N := 5) (index := 261) hq_158 ho_158 hy_184 hp_184 hc_184 hi_184 hd_184 (List.mem_of_getElem? (i := 2977) (by decide +kernel)) hs_184 (List.mem_of_getElem? (i := 127) (by decide +kernel)) rfl (by decide +kernel) rfl
theorem t_158_40 : e_Sn 158 40 (o_load e_okI 3 41) := s_iload (i := .iload_n 3) (len := 1) hq_158 (by decide +kernel) rfl (.inr ⟨3, rfl, rfl, rfl⟩)
theorem t_158_41 : e_Sn 158 41 (o_load e_okI 1 42) := s_iload (i := .iload_n 1) (len := 1) hq_158 (by decide +kernel) rfl (.inr ⟨1, rfl, rfl, rfl⟩)
theorem t_158_42 : e_Sn 158 42 (o_load e_okI 2 43) := s_iload (i := .iload_n 2) (len := 1) hq_158 (by decide +kernel) rfl (.inr ⟨2, rfl, rfl, rfl⟩)
theorem t_158_43 : e_Sn 158 43 (o_callS 159 10 4 46) := s_callS (index := 103) hq_158 ho_158 hy_159 hp_159 hc_159 hi_159 hd_159 (List.mem_of_getElem? (i := 2466) (by decide +kernel)) hs_159 (by decide +kernel) rfl
theorem t_158_46 : e_Sn 158 46 (o_ifeq 53 49) := s_ifeq (off := (7)) hq_158 (by decide +kernel) rfl rfl
theorem t_158_53 : e_Sn 158 53 (o_push (.inl 2147483648) 54) := s_iconst (n := (0)) hq_158 (by decide +kernel) rfl ⟨by decide +kernel, by decide +kernel⟩
theorem t_158_54 : e_Sn 158 54 (o_ret e_okZ) := s_zret hq_158 hr_158 (by decide +kernel)
noncomputable def e_tb_158 : e_X := (e_br 24 (e_br 13 (e_br 3 (e_br 1 (e_lf 0 (o_load e_okR 0 1)) (e_br 2 (e_lf 1 (o_load e_okI 1 2)) (e_lf 2 (o_load e_okI 2 3)))) (e_br 7 (e_br 6 (e_lf 3 (o_callS 163 2 2 6)) (e_lf 6 (o_push (.inl 2147483649) 7))) (e_br 10 (e_lf 7 (o_callV (e_s1 12 195 3) 3 10)) (e_lf 10 (o_ifeq 13 53))))) (e_br 16 (e_br 14 (e_lf 13 (o_load e_okR 0 14)) (e_br 15 (e_lf 14 (o_load e_okI 3 15)) (e_lf 15 (o_i2l 16)))) (e_br 18 (e_br 17 (e_lf 16 (o_push (e_L 9223372036854775808) 17)) (e_lf 17 (o_push (e_L 9223372036854775809) 18))) (e_br 21 (e_lf 18 (o_callS 162 6 3 21)) (e_lf 21 (o_ifeq 24 28)))))) (e_br 37 (e_br 29 (e_br 25 (e_lf 24 (o_push (.inl 2147483649) 25)) (e_br 28 (e_lf 25 (o_goto 29)) (e_lf 28 (o_push (.inl 2147483648) 29)))) (e_br 33 (e_br 30 (e_lf 29 (o_push (.inl 2147483650) 30)) (e_lf 30 (o_callV (e_s1 12 187 3) 3 33))) (e_br 36 (e_lf 33 (o_ifeq 36 53)) (e_lf 36 (o_load e_okR 0 37))))) (e_br 43 (e_br 41 (e_br 40 (e_lf 37 (o_callV (e_s1 12 184 1) 1 40)) (e_lf 40 (o_load e_okI 3 41))) (e_br 42 (e_lf 41 (o_load e_okI 1 42)) (e_lf 42 (o_load e_okI 2 43)))) (e_br 53 (e_br 46 (e_lf 43 (o_callS 159 10 4 46)) (e_lf 46 (o_ifeq 53 49))) (e_br 54 (e_lf 53 (o_push (.inl 2147483648) 54)) (e_lf 54 (o_ret e_okZ)))))))
theorem e_tk_158 : e_Tb 158 e_tb_158 := (e_brT (e_brT (e_brT (e_brT (e_lfT t_158_0) (e_brT (e_lfT t_158_1) (e_lfT t_158_2))) (e_brT (e_brT (e_lfT t_158_3) (e_lfT t_158_6)) (e_brT (e_lfT t_158_7) (e_lfT t_158_10)))) (e_brT (e_brT (e_lfT t_158_13) (e_brT (e_lfT t_158_14) (e_lfT t_158_15))) (e_brT (e_brT (e_lfT t_158_16) (e_lfT t_158_17)) (e_brT (e_lfT t_158_18) (e_lfT t_158_21))))) (e_brT (e_brT (e_brT (e_lfT t_158_24) (e_brT (e_lfT t_158_25) (e_lfT t_158_28))) (e_brT (e_brT (e_lfT t_158_29) (e_lfT t_158_30)) (e_brT (e_lfT t_158_33) (e_lfT t_158_36)))) (e_brT (e_brT (e_brT (e_lfT t_158_37) (e_lfT t_158_40)) (e_brT (e_lfT t_158_41) (e_lfT t_158_42))) (e_brT (e_brT (e_lfT t_158_43) (e_lfT t_158_46)) (e_brT (e_lfT t_158_53) (e_lfT t_158_54))))))
theorem hq_160 : (e_ml[160]?).map (·.2.1) = some prog_14_method_61_code := rfl
theorem ho_160 : (e_ml[160]?).map (·.1.cls) = some "PlateroomprinterModel" := rfl
theorem hr_160 : (e_ml[160]?).map (·.2.2.2) = some (some .int) := rfl
theorem t_160_0 : e_Sn 160 0 (o_load e_okR 0 1) := s_aload (i := .aload_n 0) (len := 1) hq_160 (by decide +kernel) rfl (.inr ⟨0, rfl, rfl, rfl⟩)
theorem t_160_1 : e_Sn 160 1 (o_push (.inl 2147483648) 2) := s_iconst (n := (0)) hq_160 (by decide +kernel) rfl ⟨by decide +kernel, by decide +kernel⟩
theorem t_160_2 : e_Sn 160 2 (o_putf (e_f1 12 0) e_okI 5) := s_putf (ty0 := ey_12) (ok := e_okI) (C := er_12) (T := et_12) (N := 5) (ref := "PlateroomprinterModel") (index := 124) (ci := 12) (k := 0) hq_160 ho_160 ⟨rfl, by decide, ei_12, (List.mem_of_getElem? (i := 1958) (by decide +kernel)), .inl rfl⟩ eo_12 en_12 e_oksI (.inl rfl) (by decide +kernel) rfl
theorem t_160_5 : e_Sn 160 5 (o_load e_okR 0 6) := s_aload (i := .aload_n 0) (len := 1) hq_160 (by decide +kernel) rfl (.inr ⟨0, rfl, rfl, rfl⟩)
theorem t_160_6 : e_Sn 160 6 (o_callV (e_s1 12 161 8) 1 9) := s_callV (ci := 12) (C := er_12) (T := et_12) (N := 5) (index := 304) hq_160 ho_160 hy_161 hp_161 hc_161 hi_161 hd_161 (List.mem_of_getElem? (i := 3026) (by decide +kernel)) hs_161 (List.mem_of_getElem? (i := 131) (by decide +kernel)) rfl (by decide +kernel) rfl
theorem t_160_9 : e_Sn 160 9 (o_ret e_okI) := s_iret hq_160 hr_160 (by decide +kernel)
noncomputable def e_tb_160 : e_X := (e_br 5 (e_br 1 (e_lf 0 (o_load e_okR 0 1)) (e_br 2 (e_lf 1 (o_push (.inl 2147483648) 2)) (e_lf 2 (o_putf (e_f1 12 0) e_okI 5)))) (e_br 6 (e_lf 5 (o_load e_okR 0 6)) (e_br 9 (e_lf 6 (o_callV (e_s1 12 161 8) 1 9)) (e_lf 9 (o_ret e_okI)))))
theorem e_tk_160 : e_Tb 160 e_tb_160 := (e_brT (e_brT (e_lfT t_160_0) (e_brT (e_lfT t_160_1) (e_lfT t_160_2))) (e_brT (e_lfT t_160_5) (e_brT (e_lfT t_160_6) (e_lfT t_160_9))))
theorem hq_162 : (e_ml[162]?).map (·.2.1) = some prog_14_method_2_code := rfl
theorem ho_162 : (e_ml[162]?).map (·.1.cls) = some "PlateroomprinterModel" := rfl
theorem hr_162 : (e_ml[162]?).map (·.2.2.2) = some (some .boolean) := rfl
theorem t_162_0 : e_Sn 162 0 (o_load e_okL 0 1) := s_lload (i := .lload_n 0) (len := 1) hq_162 (by decide +kernel) rfl (.inr ⟨0, rfl, rfl, rfl⟩)
theorem t_162_1 : e_Sn 162 1 (o_load e_okL 2 2) := s_lload (i := .lload_n 2) (len := 1) hq_162 (by decide +kernel) rfl (.inr ⟨2, rfl, rfl, rfl⟩)
theorem t_162_2 : e_Sn 162 2 (o_lcmp 3) := s_lcmp hq_162 (by decide +kernel) rfl
theorem t_162_3 : e_Sn 162 3 (o_iflt 17 6) := s_iflt (off := (14)) hq_162 (by decide +kernel) rfl rfl
theorem t_162_6 : e_Sn 162 6 (o_load e_okL 0 7) := s_lload (i := .lload_n 0) (len := 1) hq_162 (by decide +kernel) rfl (.inr ⟨0, rfl, rfl, rfl⟩)
theorem t_162_7 : e_Sn 162 7 (o_load e_okL 4 9) := s_lload (i := .lload 4) (len := 2) hq_162 (by decide +kernel) rfl (.inl ⟨rfl, rfl⟩)
theorem t_162_9 : e_Sn 162 9 (o_lcmp 10) := s_lcmp hq_162 (by decide +kernel) rfl
theorem t_162_10 : e_Sn 162 10 (o_ifgt 17 13) := s_ifgt (off := (7)) hq_162 (by decide +kernel) rfl rfl
theorem t_162_13 : e_Sn 162 13 (o_push (.inl 2147483649) 14) := s_iconst (n := (1)) hq_162 (by decide +kernel) rfl ⟨by decide +kernel, by decide +kernel⟩
theorem t_162_14 : e_Sn 162 14 (o_goto 18) := s_goto (off := (4)) hq_162 (by decide +kernel) rfl
theorem t_162_17 : e_Sn 162 17 (o_push (.inl 2147483648) 18) := s_iconst (n := (0)) hq_162 (by decide +kernel) rfl ⟨by decide +kernel, by decide +kernel⟩
theorem t_162_18 : e_Sn 162 18 (o_ret e_okZ) := s_zret hq_162 hr_162 (by decide +kernel)
noncomputable def e_tb_162 : e_X := (e_br 9 (e_br 3 (e_br 1 (e_lf 0 (o_load e_okL 0 1)) (e_br 2 (e_lf 1 (o_load e_okL 2 2)) (e_lf 2 (o_lcmp 3)))) (e_br 6 (e_lf 3 (o_iflt 17 6)) (e_br 7 (e_lf 6 (o_load e_okL 0 7)) (e_lf 7 (o_load e_okL 4 9))))) (e_br 14 (e_br 10 (e_lf 9 (o_lcmp 10)) (e_br 13 (e_lf 10 (o_ifgt 17 13)) (e_lf 13 (o_push (.inl 2147483649) 14)))) (e_br 17 (e_lf 14 (o_goto 18)) (e_br 18 (e_lf 17 (o_push (.inl 2147483648) 18)) (e_lf 18 (o_ret e_okZ))))))
theorem e_tk_162 : e_Tb 162 e_tb_162 := (e_brT (e_brT (e_brT (e_lfT t_162_0) (e_brT (e_lfT t_162_1) (e_lfT t_162_2))) (e_brT (e_lfT t_162_3) (e_brT (e_lfT t_162_6) (e_lfT t_162_7)))) (e_brT (e_brT (e_lfT t_162_9) (e_brT (e_lfT t_162_10) (e_lfT t_162_13))) (e_brT (e_lfT t_162_14) (e_brT (e_lfT t_162_17) (e_lfT t_162_18)))))
theorem hq_163 : (e_ml[163]?).map (·.2.1) = some prog_14_method_56_code := rfl
theorem ho_163 : (e_ml[163]?).map (·.1.cls) = some "PlateroomprinterModel" := rfl
theorem hr_163 : (e_ml[163]?).map (·.2.2.2) = some (some .boolean) := rfl
theorem t_163_0 : e_Sn 163 0 (o_load e_okI 0 1) := s_iload (i := .iload_n 0) (len := 1) hq_163 (by decide +kernel) rfl (.inr ⟨0, rfl, rfl, rfl⟩)
theorem t_163_1 : e_Sn 163 1 (o_i2l 2) := s_i2l hq_163 (by decide +kernel) rfl
theorem t_163_2 : e_Sn 163 2 (o_push (e_L 9223372036854775808) 3) := s_lconst (n := 0) hq_163 (by decide +kernel) rfl ⟨by decide +kernel, by decide +kernel⟩
theorem t_163_3 : e_Sn 163 3 (o_push (e_L 9223372036854775839) 6) := s_ldc2 (index := 286) (v := (31)) hq_163 ho_163 (List.mem_of_getElem? (i := 3009) (by decide +kernel)) (by decide +kernel) rfl ⟨by decide +kernel, by decide +kernel⟩
theorem t_163_6 : e_Sn 163 6 (o_callS 162 6 3 9) := s_callS (index := 136) hq_163 ho_163 hy_162 hp_162 hc_162 hi_162 hd_162 (List.mem_of_getElem? (i := 1987) (by decide +kernel)) hs_162 (by decide +kernel) rfl
theorem t_163_9 : e_Sn 163 9 (o_ifeq 24 12) := s_ifeq (off := (15)) hq_163 (by decide +kernel) rfl rfl
theorem t_163_12 : e_Sn 163 12 (o_load e_okI 1 13) := s_iload (i := .iload_n 1) (len := 1) hq_163 (by decide +kernel) rfl (.inr ⟨1, rfl, rfl, rfl⟩)
theorem t_163_13 : e_Sn 163 13 (o_i2l 14) := s_i2l hq_163 (by decide +kernel) rfl
theorem t_163_14 : e_Sn 163 14 (o_push (e_L 9223372036854775808) 15) := s_lconst (n := 0) hq_163 (by decide +kernel) rfl ⟨by decide +kernel, by decide +kernel⟩
theorem t_163_15 : e_Sn 163 15 (o_push (e_L 9223372036854775839) 18) := s_ldc2 (index := 286) (v := (31)) hq_163 ho_163 (List.mem_of_getElem? (i := 3009) (by decide +kernel)) (by decide +kernel) rfl ⟨by decide +kernel, by decide +kernel⟩
theorem t_163_18 : e_Sn 163 18 (o_callS 162 6 3 21) := s_callS (index := 136) hq_163 ho_163 hy_162 hp_162 hc_162 hi_162 hd_162 (List.mem_of_getElem? (i := 1987) (by decide +kernel)) hs_162 (by decide +kernel) rfl
theorem t_163_21 : e_Sn 163 21 (o_ifeq 24 28) := s_ifne (off := (7)) hq_163 (by decide +kernel) rfl rfl
theorem t_163_24 : e_Sn 163 24 (o_push (.inl 2147483649) 25) := s_iconst (n := (1)) hq_163 (by decide +kernel) rfl ⟨by decide +kernel, by decide +kernel⟩
theorem t_163_25 : e_Sn 163 25 (o_goto 29) := s_goto (off := (4)) hq_163 (by decide +kernel) rfl
theorem t_163_28 : e_Sn 163 28 (o_push (.inl 2147483648) 29) := s_iconst (n := (0)) hq_163 (by decide +kernel) rfl ⟨by decide +kernel, by decide +kernel⟩
theorem t_163_29 : e_Sn 163 29 (o_ret e_okZ) := s_zret hq_163 hr_163 (by decide +kernel)
noncomputable def e_tb_163 : e_X := (e_br 14 (e_br 6 (e_br 2 (e_br 1 (e_lf 0 (o_load e_okI 0 1)) (e_lf 1 (o_i2l 2))) (e_br 3 (e_lf 2 (o_push (e_L 9223372036854775808) 3)) (e_lf 3 (o_push (e_L 9223372036854775839) 6)))) (e_br 12 (e_br 9 (e_lf 6 (o_callS 162 6 3 9)) (e_lf 9 (o_ifeq 24 12))) (e_br 13 (e_lf 12 (o_load e_okI 1 13)) (e_lf 13 (o_i2l 14))))) (e_br 24 (e_br 18 (e_br 15 (e_lf 14 (o_push (e_L 9223372036854775808) 15)) (e_lf 15 (o_push (e_L 9223372036854775839) 18))) (e_br 21 (e_lf 18 (o_callS 162 6 3 21)) (e_lf 21 (o_ifeq 24 28)))) (e_br 28 (e_br 25 (e_lf 24 (o_push (.inl 2147483649) 25)) (e_lf 25 (o_goto 29))) (e_br 29 (e_lf 28 (o_push (.inl 2147483648) 29)) (e_lf 29 (o_ret e_okZ))))))
theorem e_tk_163 : e_Tb 163 e_tb_163 := (e_brT (e_brT (e_brT (e_brT (e_lfT t_163_0) (e_lfT t_163_1)) (e_brT (e_lfT t_163_2) (e_lfT t_163_3))) (e_brT (e_brT (e_lfT t_163_6) (e_lfT t_163_9)) (e_brT (e_lfT t_163_12) (e_lfT t_163_13)))) (e_brT (e_brT (e_brT (e_lfT t_163_14) (e_lfT t_163_15)) (e_brT (e_lfT t_163_18) (e_lfT t_163_21))) (e_brT (e_brT (e_lfT t_163_24) (e_lfT t_163_25)) (e_brT (e_lfT t_163_28) (e_lfT t_163_29)))))
theorem hq_164 : (e_ml[164]?).map (·.2.1) = some prog_14_method_71_code := rfl
theorem ho_164 : (e_ml[164]?).map (·.1.cls) = some "PlateroomprinterModel" := rfl
theorem hr_164 : (e_ml[164]?).map (·.2.2.2) = some (some .boolean) := rfl
theorem t_164_0 : e_Sn 164 0 (o_load e_okI 0 1) := s_iload (i := .iload_n 0) (len := 1) hq_164 (by decide +kernel) rfl (.inr ⟨0, rfl, rfl, rfl⟩)
theorem t_164_1 : e_Sn 164 1 (o_i2l 2) := s_i2l hq_164 (by decide +kernel) rfl
theorem t_164_2 : e_Sn 164 2 (o_push (e_L 9223372036854775808) 3) := s_lconst (n := 0) hq_164 (by decide +kernel) rfl ⟨by decide +kernel, by decide +kernel⟩
theorem t_164_3 : e_Sn 164 3 (o_push (e_L 9223372036854775811) 6) := s_ldc2 (index := 331) (v := (3)) hq_164 ho_164 (List.mem_of_getElem? (i := 3070) (by decide +kernel)) (by decide +kernel) rfl ⟨by decide +kernel, by decide +kernel⟩
theorem t_164_6 : e_Sn 164 6 (o_callS 162 6 3 9) := s_callS (index := 136) hq_164 ho_164 hy_162 hp_162 hc_162 hi_162 hd_162 (List.mem_of_getElem? (i := 1987) (by decide +kernel)) hs_162 (by decide +kernel) rfl
theorem t_164_9 : e_Sn 164 9 (o_ifeq 12 16) := s_ifne (off := (7)) hq_164 (by decide +kernel) rfl rfl
theorem t_164_12 : e_Sn 164 12 (o_push (.inl 2147483649) 13) := s_iconst (n := (1)) hq_164 (by decide +kernel) rfl ⟨by decide +kernel, by decide +kernel⟩
theorem t_164_13 : e_Sn 164 13 (o_goto 17) := s_goto (off := (4)) hq_164 (by decide +kernel) rfl
theorem t_164_16 : e_Sn 164 16 (o_push (.inl 2147483648) 17) := s_iconst (n := (0)) hq_164 (by decide +kernel) rfl ⟨by decide +kernel, by decide +kernel⟩
theorem t_164_17 : e_Sn 164 17 (o_ret e_okZ) := s_zret hq_164 hr_164 (by decide +kernel)
noncomputable def e_tb_164 : e_X := (e_br 9 (e_br 2 (e_br 1 (e_lf 0 (o_load e_okI 0 1)) (e_lf 1 (o_i2l 2))) (e_br 3 (e_lf 2 (o_push (e_L 9223372036854775808) 3)) (e_br 6 (e_lf 3 (o_push (e_L 9223372036854775811) 6)) (e_lf 6 (o_callS 162 6 3 9))))) (e_br 13 (e_br 12 (e_lf 9 (o_ifeq 12 16)) (e_lf 12 (o_push (.inl 2147483649) 13))) (e_br 16 (e_lf 13 (o_goto 17)) (e_br 17 (e_lf 16 (o_push (.inl 2147483648) 17)) (e_lf 17 (o_ret e_okZ))))))
theorem e_tk_164 : e_Tb 164 e_tb_164 := (e_brT (e_brT (e_brT (e_lfT t_164_0) (e_lfT t_164_1)) (e_brT (e_lfT t_164_2) (e_brT (e_lfT t_164_3) (e_lfT t_164_6)))) (e_brT (e_brT (e_lfT t_164_9) (e_lfT t_164_12)) (e_brT (e_lfT t_164_13) (e_brT (e_lfT t_164_16) (e_lfT t_164_17)))))
theorem hq_165 : (e_ml[165]?).map (·.2.1) = some prog_14_method_52_code := rfl
theorem ho_165 : (e_ml[165]?).map (·.1.cls) = some "PlateroomprinterModel" := rfl
theorem hr_165 : (e_ml[165]?).map (·.2.2.2) = some (some .boolean) := rfl
theorem t_165_0 : e_Sn 165 0 (o_load e_okR 0 1) := s_aload (i := .aload_n 0) (len := 1) hq_165 (by decide +kernel) rfl (.inr ⟨0, rfl, rfl, rfl⟩)
theorem t_165_1 : e_Sn 165 1 (o_load e_okI 1 2) := s_iload (i := .iload_n 1) (len := 1) hq_165 (by decide +kernel) rfl (.inr ⟨1, rfl, rfl, rfl⟩)
theorem t_165_2 : e_Sn 165 2 (o_callV (e_s1 12 166 2) 2 5) := s_callV (ci := 12) (C := er_12) (T := et_12) (N := 5) (index := 268) hq_165 ho_165 hy_166 hp_166 hc_166 hi_166 hd_166 (List.mem_of_getElem? (i := 2973) (by decide +kernel)) hs_166 (List.mem_of_getElem? (i := 126) (by decide +kernel)) rfl (by decide +kernel) rfl
theorem t_165_5 : e_Sn 165 5 (o_ifeq 8 37) := s_ifne (off := (32)) hq_165 (by decide +kernel) rfl rfl
theorem t_165_37 : e_Sn 165 37 (o_push (.inl 2147483649) 38) := s_iconst (n := (1)) hq_165 (by decide +kernel) rfl ⟨by decide +kernel, by decide +kernel⟩
theorem t_165_38 : e_Sn 165 38 (o_goto 42) := s_goto (off := (4)) hq_165 (by decide +kernel) rfl
theorem t_165_42 : e_Sn 165 42 (o_ret e_okZ) := s_zret hq_165 hr_165 (by decide +kernel)
noncomputable def e_tb_165 : e_X := (e_br 5 (e_br 1 (e_lf 0 (o_load e_okR 0 1)) (e_br 2 (e_lf 1 (o_load e_okI 1 2)) (e_lf 2 (o_callV (e_s1 12 166 2) 2 5)))) (e_br 38 (e_br 37 (e_lf 5 (o_ifeq 8 37)) (e_lf 37 (o_push (.inl 2147483649) 38))) (e_br 42 (e_lf 38 (o_goto 42)) (e_lf 42 (o_ret e_okZ)))))
theorem e_tk_165 : e_Tb 165 e_tb_165 := (e_brT (e_brT (e_lfT t_165_0) (e_brT (e_lfT t_165_1) (e_lfT t_165_2))) (e_brT (e_brT (e_lfT t_165_5) (e_lfT t_165_37)) (e_brT (e_lfT t_165_38) (e_lfT t_165_42))))
theorem hq_166 : (e_ml[166]?).map (·.2.1) = some prog_14_method_49_code := rfl
theorem ho_166 : (e_ml[166]?).map (·.1.cls) = some "PlateroomprinterModel" := rfl
theorem hr_166 : (e_ml[166]?).map (·.2.2.2) = some (some .boolean) := rfl
theorem t_166_0 : e_Sn 166 0 (o_load e_okI 1 1) := s_iload (i := .iload_n 1) (len := 1) hq_166 (by decide +kernel) rfl (.inr ⟨1, rfl, rfl, rfl⟩)
theorem t_166_1 : e_Sn 166 1 (o_i2l 2) := s_i2l hq_166 (by decide +kernel) rfl
theorem t_166_2 : e_Sn 166 2 (o_push (e_L 9223372036854775808) 3) := s_lconst (n := 0) hq_166 (by decide +kernel) rfl ⟨by decide +kernel, by decide +kernel⟩
theorem t_166_3 : e_Sn 166 3 (o_load e_okR 0 4) := s_aload (i := .aload_n 0) (len := 1) hq_166 (by decide +kernel) rfl (.inr ⟨0, rfl, rfl, rfl⟩)
theorem t_166_4 : e_Sn 166 4 (o_callV (e_s1 12 184 1) 1 7) := s_callV (ci := 12) (C := er_12) (T := et_12) (N := 5) (index := 261) hq_166 ho_166 hy_184 hp_184 hc_184 hi_184 hd_184 (List.mem_of_getElem? (i := 2977) (by decide +kernel)) hs_184 (List.mem_of_getElem? (i := 127) (by decide +kernel)) rfl (by decide +kernel) rfl
theorem t_166_7 : e_Sn 166 7 (o_callV (e_s1 18 234 1) 1 10) := s_callV (ci := 18) (C := er_18) (T := et_18) (N := 3) (index := 74) hq_166 ho_166 hy_234 hp_234 hc_234 hi_234 hd_234 (List.mem_of_getElem? (i := 2000) (by decide +kernel)) hs_234 (List.mem_of_getElem? (i := 2002) (by decide +kernel)) rfl (by decide +kernel) rfl
theorem t_166_10 : e_Sn 166 10 (o_push (.inl 2147483649) 11) := s_iconst (n := (1)) hq_166 (by decide +kernel) rfl ⟨by decide +kernel, by decide +kernel⟩
theorem t_166_11 : e_Sn 166 11 (o_isub 12) := s_isub hq_166 (by decide +kernel) rfl
theorem t_166_12 : e_Sn 166 12 (o_i2l 13) := s_i2l hq_166 (by decide +kernel) rfl
theorem t_166_13 : e_Sn 166 13 (o_callS 162 6 3 16) := s_callS (index := 136) hq_166 ho_166 hy_162 hp_162 hc_162 hi_162 hd_162 (List.mem_of_getElem? (i := 1987) (by decide +kernel)) hs_162 (by decide +kernel) rfl
theorem t_166_16 : e_Sn 166 16 (o_ifeq 19 23) := s_ifne (off := (7)) hq_166 (by decide +kernel) rfl rfl
theorem t_166_19 : e_Sn 166 19 (o_push (.inl 2147483649) 20) := s_iconst (n := (1)) hq_166 (by decide +kernel) rfl ⟨by decide +kernel, by decide +kernel⟩
theorem t_166_20 : e_Sn 166 20 (o_goto 24) := s_goto (off := (4)) hq_166 (by decide +kernel) rfl
theorem t_166_24 : e_Sn 166 24 (o_ret e_okZ) := s_zret hq_166 hr_166 (by decide +kernel)
noncomputable def e_tb_166 : e_X := (e_br 11 (e_br 3 (e_br 1 (e_lf 0 (o_load e_okI 1 1)) (e_br 2 (e_lf 1 (o_i2l 2)) (e_lf 2 (o_push (e_L 9223372036854775808) 3)))) (e_br 7 (e_br 4 (e_lf 3 (o_load e_okR 0 4)) (e_lf 4 (o_callV (e_s1 12 184 1) 1 7))) (e_br 10 (e_lf 7 (o_callV (e_s1 18 234 1) 1 10)) (e_lf 10 (o_push (.inl 2147483649) 11))))) (e_br 16 (e_br 12 (e_lf 11 (o_isub 12)) (e_br 13 (e_lf 12 (o_i2l 13)) (e_lf 13 (o_callS 162 6 3 16)))) (e_br 20 (e_br 19 (e_lf 16 (o_ifeq 19 23)) (e_lf 19 (o_push (.inl 2147483649) 20))) (e_br 24 (e_lf 20 (o_goto 24)) (e_lf 24 (o_ret e_okZ))))))
theorem e_tk_166 : e_Tb 166 e_tb_166 := (e_brT (e_brT (e_brT (e_lfT t_166_0) (e_brT (e_lfT t_166_1) (e_lfT t_166_2))) (e_brT (e_brT (e_lfT t_166_3) (e_lfT t_166_4)) (e_brT (e_lfT t_166_7) (e_lfT t_166_10)))) (e_brT (e_brT (e_lfT t_166_11) (e_brT (e_lfT t_166_12) (e_lfT t_166_13))) (e_brT (e_brT (e_lfT t_166_16) (e_lfT t_166_19)) (e_brT (e_lfT t_166_20) (e_lfT t_166_24)))))
theorem hq_167 : (e_ml[167]?).map (·.2.1) = some prog_14_method_25_code := rfl
theorem ho_167 : (e_ml[167]?).map (·.1.cls) = some "PlateroomprinterModel" := rfl
theorem hr_167 : (e_ml[167]?).map (·.2.2.2) = some (some .boolean) := rfl
theorem t_167_0 : e_Sn 167 0 (o_load e_okI 0 1) := s_iload (i := .iload_n 0) (len := 1) hq_167 (by decide +kernel) rfl (.inr ⟨0, rfl, rfl, rfl⟩)
theorem t_167_1 : e_Sn 167 1 (o_switch 2147483648 [40, 60, 78, 78, 96, 96] 106) := s_switch (dflt := (105)) (low := (0)) (hi := (5)) (offs := #[(39), (59), (77), (77), (95), (95)]) (len := 39) hq_167 (by decide +kernel) rfl rfl rfl rfl
theorem t_167_40 : e_Sn 167 40 (o_load e_okI 1 41) := s_iload (i := .iload_n 1) (len := 1) hq_167 (by decide +kernel) rfl (.inr ⟨1, rfl, rfl, rfl⟩)
theorem t_167_41 : e_Sn 167 41 (o_i2l 42) := s_i2l hq_167 (by decide +kernel) rfl
theorem t_167_42 : e_Sn 167 42 (o_push (e_L 9223372036854765809) 45) := s_ldc2 (index := 132) (v := (-9999)) hq_167 ho_167 (List.mem_of_getElem? (i := 1985) (by decide +kernel)) (by decide +kernel) rfl ⟨by decide +kernel, by decide +kernel⟩
theorem t_167_45 : e_Sn 167 45 (o_push (e_L 9223372036854785807) 48) := s_ldc2 (index := 134) (v := (9999)) hq_167 ho_167 (List.mem_of_getElem? (i := 1986) (by decide +kernel)) (by decide +kernel) rfl ⟨by decide +kernel, by decide +kernel⟩
theorem t_167_48 : e_Sn 167 48 (o_callS 162 6 3 51) := s_callS (index := 136) hq_167 ho_167 hy_162 hp_162 hc_162 hi_162 hd_162 (List.mem_of_getElem? (i := 1987) (by decide +kernel)) hs_162 (by decide +kernel) rfl
theorem t_167_51 : e_Sn 167 51 (o_ifeq 54 58) := s_ifne (off := (7)) hq_167 (by decide +kernel) rfl rfl
theorem t_167_54 : e_Sn 167 54 (o_push (.inl 2147483649) 55) := s_iconst (n := (1)) hq_167 (by decide +kernel) rfl ⟨by decide +kernel, by decide +kernel⟩
theorem t_167_55 : e_Sn 167 55 (o_goto 59) := s_goto (off := (4)) hq_167 (by decide +kernel) rfl
theorem t_167_58 : e_Sn 167 58 (o_push (.inl 2147483648) 59) := s_iconst (n := (0)) hq_167 (by decide +kernel) rfl ⟨by decide +kernel, by decide +kernel⟩
theorem t_167_59 : e_Sn 167 59 (o_ret e_okZ) := s_zret hq_167 hr_167 (by decide +kernel)
theorem t_167_60 : e_Sn 167 60 (o_load e_okI 1 61) := s_iload (i := .iload_n 1) (len := 1) hq_167 (by decide +kernel) rfl (.inr ⟨1, rfl, rfl, rfl⟩)
theorem t_167_61 : e_Sn 167 61 (o_i2l 62) := s_i2l hq_167 (by decide +kernel) rfl
theorem t_167_62 : e_Sn 167 62 (o_push (e_L 9223372036854775808) 63) := s_lconst (n := 0) hq_167 (by decide +kernel) rfl ⟨by decide +kernel, by decide +kernel⟩
theorem t_167_63 : e_Sn 167 63 (o_push (e_L 9223372036854775860) 66) := s_ldc2 (index := 140) (v := (52)) hq_167 ho_167 (List.mem_of_getElem? (i := 1990) (by decide +kernel)) (by decide +kernel) rfl ⟨by decide +kernel, by decide +kernel⟩
theorem t_167_66 : e_Sn 167 66 (o_callS 162 6 3 69) := s_callS (index := 136) hq_167 ho_167 hy_162 hp_162 hc_162 hi_162 hd_162 (List.mem_of_getElem? (i := 1987) (by decide +kernel)) hs_162 (by decide +kernel) rfl
theorem t_167_69 : e_Sn 167 69 (o_ifeq 72 76) := s_ifne (off := (7)) hq_167 (by decide +kernel) rfl rfl
theorem t_167_72 : e_Sn 167 72 (o_push (.inl 2147483649) 73) := s_iconst (n := (1)) hq_167 (by decide +kernel) rfl ⟨by decide +kernel, by decide +kernel⟩
theorem t_167_73 : e_Sn 167 73 (o_goto 77) := s_goto (off := (4)) hq_167 (by decide +kernel) rfl
theorem t_167_76 : e_Sn 167 76 (o_push (.inl 2147483648) 77) := s_iconst (n := (0)) hq_167 (by decide +kernel) rfl ⟨by decide +kernel, by decide +kernel⟩
theorem t_167_77 : e_Sn 167 77 (o_ret e_okZ) := s_zret hq_167 hr_167 (by decide +kernel)
theorem t_167_78 : e_Sn 167 78 (o_load e_okI 1 79) := s_iload (i := .iload_n 1) (len := 1) hq_167 (by decide +kernel) rfl (.inr ⟨1, rfl, rfl, rfl⟩)
theorem t_167_79 : e_Sn 167 79 (o_i2l 80) := s_i2l hq_167 (by decide +kernel) rfl
theorem t_167_80 : e_Sn 167 80 (o_push (e_L 9223372036854775808) 81) := s_lconst (n := 0) hq_167 (by decide +kernel) rfl ⟨by decide +kernel, by decide +kernel⟩
theorem t_167_81 : e_Sn 167 81 (o_push (e_L 9223372036854775817) 84) := s_ldc2 (index := 142) (v := (9)) hq_167 ho_167 (List.mem_of_getElem? (i := 1991) (by decide +kernel)) (by decide +kernel) rfl ⟨by decide +kernel, by decide +kernel⟩
theorem t_167_84 : e_Sn 167 84 (o_callS 162 6 3 87) := s_callS (index := 136) hq_167 ho_167 hy_162 hp_162 hc_162 hi_162 hd_162 (List.mem_of_getElem? (i := 1987) (by decide +kernel)) hs_162 (by decide +kernel) rfl
theorem t_167_87 : e_Sn 167 87 (o_ifeq 90 94) := s_ifne (off := (7)) hq_167 (by decide +kernel) rfl rfl
theorem t_167_90 : e_Sn 167 90 (o_push (.inl 2147483649) 91) := s_iconst (n := (1)) hq_167 (by decide +kernel) rfl ⟨by decide +kernel, by decide +kernel⟩
theorem t_167_91 : e_Sn 167 91 (o_goto 95) := s_goto (off := (4)) hq_167 (by decide +kernel) rfl
theorem t_167_94 : e_Sn 167 94 (o_push (.inl 2147483648) 95) := s_iconst (n := (0)) hq_167 (by decide +kernel) rfl ⟨by decide +kernel, by decide +kernel⟩
theorem t_167_95 : e_Sn 167 95 (o_ret e_okZ) := s_zret hq_167 hr_167 (by decide +kernel)
theorem t_167_96 : e_Sn 167 96 (o_load e_okI 1 97) := s_iload (i := .iload_n 1) (len := 1) hq_167 (by decide +kernel) rfl (.inr ⟨1, rfl, rfl, rfl⟩)
theorem t_167_97 : e_Sn 167 97 (o_ifeq 104 100) := s_ifeq (off := (7)) hq_167 (by decide +kernel) rfl rfl
theorem t_167_100 : e_Sn 167 100 (o_push (.inl 2147483649) 101) := s_iconst (n := (1)) hq_167 (by decide +kernel) rfl ⟨by decide +kernel, by decide +kernel⟩
theorem t_167_101 : e_Sn 167 101 (o_goto 105) := s_goto (off := (4)) hq_167 (by decide +kernel) rfl
theorem t_167_104 : e_Sn 167 104 (o_push (.inl 2147483648) 105) := s_iconst (n := (0)) hq_167 (by decide +kernel) rfl ⟨by decide +kernel, by decide +kernel⟩
theorem t_167_105 : e_Sn 167 105 (o_ret e_okZ) := s_zret hq_167 hr_167 (by decide +kernel)
theorem t_167_106 : e_Sn 167 106 (o_push (.inl 2147483649) 107) := s_iconst (n := (1)) hq_167 (by decide +kernel) rfl ⟨by decide +kernel, by decide +kernel⟩
theorem t_167_107 : e_Sn 167 107 (o_ret e_okZ) := s_zret hq_167 hr_167 (by decide +kernel)
noncomputable def e_tb_167 : e_X := (e_br 76 (e_br 58 (e_br 45 (e_br 40 (e_br 1 (e_lf 0 (o_load e_okI 0 1)) (e_lf 1 (o_switch 2147483648 [40, 60, 78, 78, 96, 96] 106))) (e_br 41 (e_lf 40 (o_load e_okI 1 41)) (e_br 42 (e_lf 41 (o_i2l 42)) (e_lf 42 (o_push (e_L 9223372036854765809) 45))))) (e_br 51 (e_br 48 (e_lf 45 (o_push (e_L 9223372036854785807) 48)) (e_lf 48 (o_callS 162 6 3 51))) (e_br 54 (e_lf 51 (o_ifeq 54 58)) (e_br 55 (e_lf 54 (o_push (.inl 2147483649) 55)) (e_lf 55 (o_goto 59)))))) (e_br 63 (e_br 60 (e_br 59 (e_lf 58 (o_push (.inl 2147483648) 59)) (e_lf 59 (o_ret e_okZ))) (e_br 61 (e_lf 60 (o_load e_okI 1 61)) (e_br 62 (e_lf 61 (o_i2l 62)) (e_lf 62 (o_push (e_L 9223372036854775808) 63))))) (e_br 69 (e_br 66 (e_lf 63 (o_push (e_L 9223372036854775860) 66)) (e_lf 66 (o_callS 162 6 3 69))) (e_br 72 (e_lf 69 (o_ifeq 72 76)) (e_br 73 (e_lf 72 (o_push (.inl 2147483649) 73)) (e_lf 73 (o_goto 77))))))) (e_br 94 (e_br 81 (e_br 78 (e_br 77 (e_lf 76 (o_push (.inl 2147483648) 77)) (e_lf 77 (o_ret e_okZ))) (e_br 79 (e_lf 78 (o_load e_okI 1 79)) (e_br 80 (e_lf 79 (o_i2l 80)) (e_lf 80 (o_push (e_L 9223372036854775808) 81))))) (e_br 87 (e_br 84 (e_lf 81 (o_push (e_L 9223372036854775817) 84)) (e_lf 84 (o_callS 162 6 3 87))) (e_br 90 (e_lf 87 (o_ifeq 90 94)) (e_br 91 (e_lf 90 (o_push (.inl 2147483649) 91)) (e_lf 91 (o_goto 95)))))) (e_br 101 (e_br 96 (e_br 95 (e_lf 94 (o_push (.inl 2147483648) 95)) (e_lf 95 (o_ret e_okZ))) (e_br 97 (e_lf 96 (o_load e_okI 1 97)) (e_br 100 (e_lf 97 (o_ifeq 104 100)) (e_lf 100 (o_push (.inl 2147483649) 101))))) (e_br 105 (e_br 104 (e_lf 101 (o_goto 105)) (e_lf 104 (o_push (.inl 2147483648) 105))) (e_br 106 (e_lf 105 (o_ret e_okZ)) (e_br 107 (e_lf 106 (o_push (.inl 2147483649) 107)) (e_lf 107 (o_ret e_okZ))))))))
theorem e_tk_167 : e_Tb 167 e_tb_167 := (e_brT (e_brT (e_brT (e_brT (e_brT (e_lfT t_167_0) (e_lfT t_167_1)) (e_brT (e_lfT t_167_40) (e_brT (e_lfT t_167_41) (e_lfT t_167_42)))) (e_brT (e_brT (e_lfT t_167_45) (e_lfT t_167_48)) (e_brT (e_lfT t_167_51) (e_brT (e_lfT t_167_54) (e_lfT t_167_55))))) (e_brT (e_brT (e_brT (e_lfT t_167_58) (e_lfT t_167_59)) (e_brT (e_lfT t_167_60) (e_brT (e_lfT t_167_61) (e_lfT t_167_62)))) (e_brT (e_brT (e_lfT t_167_63) (e_lfT t_167_66)) (e_brT (e_lfT t_167_69) (e_brT (e_lfT t_167_72) (e_lfT t_167_73)))))) (e_brT (e_brT (e_brT (e_brT (e_lfT t_167_76) (e_lfT t_167_77)) (e_brT (e_lfT t_167_78) (e_brT (e_lfT t_167_79) (e_lfT t_167_80)))) (e_brT (e_brT (e_lfT t_167_81) (e_lfT t_167_84)) (e_brT (e_lfT t_167_87) (e_brT (e_lfT t_167_90) (e_lfT t_167_91))))) (e_brT (e_brT (e_brT (e_lfT t_167_94) (e_lfT t_167_95)) (e_brT (e_lfT t_167_96) (e_brT (e_lfT t_167_97) (e_lfT t_167_100)))) (e_brT (e_brT (e_lfT t_167_101) (e_lfT t_167_104)) (e_brT (e_lfT t_167_105) (e_brT (e_lfT t_167_106) (e_lfT t_167_107)))))))
theorem hq_168 : (e_ml[168]?).map (·.2.1) = some prog_14_method_82_code := rfl
theorem ho_168 : (e_ml[168]?).map (·.1.cls) = some "PlateroomprinterModel" := rfl
theorem hr_168 : (e_ml[168]?).map (·.2.2.2) = some (some .boolean) := rfl
theorem t_168_0 : e_Sn 168 0 (o_load e_okR 0 1) := s_aload (i := .aload_n 0) (len := 1) hq_168 (by decide +kernel) rfl (.inr ⟨0, rfl, rfl, rfl⟩)
theorem t_168_1 : e_Sn 168 1 (o_push (.inl 2147483648) 2) := s_iconst (n := (0)) hq_168 (by decide +kernel) rfl ⟨by decide +kernel, by decide +kernel⟩
theorem t_168_2 : e_Sn 168 2 (o_putf (e_f1 12 0) e_okI 5) := s_putf (ty0 := ey_12) (ok := e_okI) (C := er_12) (T := et_12) (N := 5) (ref := "PlateroomprinterModel") (index := 124) (ci := 12) (k := 0) hq_168 ho_168 ⟨rfl, by decide, ei_12, (List.mem_of_getElem? (i := 1958) (by decide +kernel)), .inl rfl⟩ eo_12 en_12 e_oksI (.inl rfl) (by decide +kernel) rfl
theorem t_168_5 : e_Sn 168 5 (o_push (.inl 2147483649) 6) := s_iconst (n := (1)) hq_168 (by decide +kernel) rfl ⟨by decide +kernel, by decide +kernel⟩
theorem t_168_6 : e_Sn 168 6 (o_ret e_okZ) := s_zret hq_168 hr_168 (by decide +kernel)
noncomputable def e_tb_168 : e_X := (e_br 2 (e_br 1 (e_lf 0 (o_load e_okR 0 1)) (e_lf 1 (o_push (.inl 2147483648) 2))) (e_br 5 (e_lf 2 (o_putf (e_f1 12 0) e_okI 5)) (e_br 6 (e_lf 5 (o_push (.inl 2147483649) 6)) (e_lf 6 (o_ret e_okZ)))))
theorem e_tk_168 : e_Tb 168 e_tb_168 := (e_brT (e_brT (e_lfT t_168_0) (e_lfT t_168_1)) (e_brT (e_lfT t_168_2) (e_brT (e_lfT t_168_5) (e_lfT t_168_6))))
theorem hq_169 : (e_ml[169]?).map (·.2.1) = some prog_14_method_38_code := rfl
theorem ho_169 : (e_ml[169]?).map (·.1.cls) = some "PlateroomprinterModel" := rfl
theorem hr_169 : (e_ml[169]?).map (·.2.2.2) = some (some .int) := rfl
theorem t_169_0 : e_Sn 169 0 (o_load e_okR 0 1) := s_aload (i := .aload_n 0) (len := 1) hq_169 (by decide +kernel) rfl (.inr ⟨0, rfl, rfl, rfl⟩)
theorem t_169_1 : e_Sn 169 1 (o_load e_okI 1 2) := s_iload (i := .iload_n 1) (len := 1) hq_169 (by decide +kernel) rfl (.inr ⟨1, rfl, rfl, rfl⟩)
theorem t_169_2 : e_Sn 169 2 (o_i2l 3) := s_i2l hq_169 (by decide +kernel) rfl
theorem t_169_3 : e_Sn 169 3 (o_push (e_L 9223372036854775808) 4) := s_lconst (n := 0) hq_169 (by decide +kernel) rfl ⟨by decide +kernel, by decide +kernel⟩
theorem t_169_4 : e_Sn 169 4 (o_load e_okR 0 5) := s_aload (i := .aload_n 0) (len := 1) hq_169 (by decide +kernel) rfl (.inr ⟨0, rfl, rfl, rfl⟩)
theorem t_169_5 : e_Sn 169 5 (o_getf (e_f1 12 1) 8) := s_getf (C := er_12) (T := et_12) (N := 5) (ref := "PlateroomprinterModel") (index := 10) (ci := 12) (k := 1) hq_169 ho_169 ⟨rfl, by decide, ei_12, (List.mem_of_getElem? (i := 1959) (by decide +kernel)), .inl rfl⟩ (by decide +kernel) rfl
theorem t_169_8 : e_Sn 169 8 (o_getf (e_f1 13 0) 11) := s_getf (C := er_13) (T := et_13) (N := 13) (ref := "PlateroomprinterModel$Machine") (index := 187) (ci := 13) (k := 0) hq_169 ho_169 ⟨rfl, by decide, ei_13, (List.mem_of_getElem? (i := 1892) (by decide +kernel)), .inl rfl⟩ (by decide +kernel) rfl
theorem t_169_11 : e_Sn 169 11 (o_callV (e_s1 18 234 1) 1 14) := s_callV (ci := 18) (C := er_18) (T := et_18) (N := 3) (index := 74) hq_169 ho_169 hy_234 hp_234 hc_234 hi_234 hd_234 (List.mem_of_getElem? (i := 2000) (by decide +kernel)) hs_234 (List.mem_of_getElem? (i := 2002) (by decide +kernel)) rfl (by decide +kernel) rfl
theorem t_169_14 : e_Sn 169 14 (o_push (.inl 2147483649) 15) := s_iconst (n := (1)) hq_169 (by decide +kernel) rfl ⟨by decide +kernel, by decide +kernel⟩
theorem t_169_15 : e_Sn 169 15 (o_isub 16) := s_isub hq_169 (by decide +kernel) rfl
theorem t_169_16 : e_Sn 169 16 (o_i2l 17) := s_i2l hq_169 (by decide +kernel) rfl
theorem t_169_17 : e_Sn 169 17 (o_callS 162 6 3 20) := s_callS (index := 136) hq_169 ho_169 hy_162 hp_162 hc_162 hi_162 hd_162 (List.mem_of_getElem? (i := 1987) (by decide +kernel)) hs_162 (by decide +kernel) rfl
theorem t_169_20 : e_Sn 169 20 (o_ifeq 23 27) := s_ifne (off := (7)) hq_169 (by decide +kernel) rfl rfl
theorem t_169_23 : e_Sn 169 23 (o_push (.inl 2147483649) 24) := s_iconst (n := (1)) hq_169 (by decide +kernel) rfl ⟨by decide +kernel, by decide +kernel⟩
theorem t_169_24 : e_Sn 169 24 (o_goto 28) := s_goto (off := (4)) hq_169 (by decide +kernel) rfl
theorem t_169_28 : e_Sn 169 28 (o_push (.inl 2147483649) 29) := s_iconst (n := (1)) hq_169 (by decide +kernel) rfl ⟨by decide +kernel, by decide +kernel⟩
theorem t_169_29 : e_Sn 169 29 (o_callV (e_s1 12 195 3) 3 32) := s_callV (ci := 12) (C := er_12) (T := et_12) (N := 5) (index := 148) hq_169 ho_169 hy_195 hp_195 hc_195 hi_195 hd_195 (List.mem_of_getElem? (i := 1992) (by decide +kernel)) hs_195 (List.mem_of_getElem? (i := 73) (by decide +kernel)) rfl (by decide +kernel) rfl
theorem t_169_32 : e_Sn 169 32 (o_ifeq 35 58) := s_ifne (off := (26)) hq_169 (by decide +kernel) rfl rfl
theorem t_169_58 : e_Sn 169 58 (o_push (.inl 2147483648) 59) := s_iconst (n := (0)) hq_169 (by decide +kernel) rfl ⟨by decide +kernel, by decide +kernel⟩
theorem t_169_59 : e_Sn 169 59 (o_goto 93) := s_goto (off := (34)) hq_169 (by decide +kernel) rfl
theorem t_169_93 : e_Sn 169 93 (o_ret e_okI) := s_iret hq_169 hr_169 (by decide +kernel)
noncomputable def e_tb_169 : e_X := (e_br 16 (e_br 5 (e_br 2 (e_br 1 (e_lf 0 (o_load e_okR 0 1)) (e_lf 1 (o_load e_okI 1 2))) (e_br 3 (e_lf 2 (o_i2l 3)) (e_br 4 (e_lf 3 (o_push (e_L 9223372036854775808) 4)) (e_lf 4 (o_load e_okR 0 5))))) (e_br 11 (e_br 8 (e_lf 5 (o_getf (e_f1 12 1) 8)) (e_lf 8 (o_getf (e_f1 13 0) 11))) (e_br 14 (e_lf 11 (o_callV (e_s1 18 234 1) 1 14)) (e_br 15 (e_lf 14 (o_push (.inl 2147483649) 15)) (e_lf 15 (o_isub 16)))))) (e_br 28 (e_br 20 (e_br 17 (e_lf 16 (o_i2l 17)) (e_lf 17 (o_callS 162 6 3 20))) (e_br 23 (e_lf 20 (o_ifeq 23 27)) (e_br 24 (e_lf 23 (o_push (.inl 2147483649) 24)) (e_lf 24 (o_goto 28))))) (e_br 58 (e_br 29 (e_lf 28 (o_push (.inl 2147483649) 29)) (e_br 32 (e_lf 29 (o_callV (e_s1 12 195 3) 3 32)) (e_lf 32 (o_ifeq 35 58)))) (e_br 59 (e_lf 58 (o_push (.inl 2147483648) 59)) (e_br 93 (e_lf 59 (o_goto 93)) (e_lf 93 (o_ret e_okI)))))))
theorem e_tk_169 : e_Tb 169 e_tb_169 := (e_brT (e_brT (e_brT (e_brT (e_lfT t_169_0) (e_lfT t_169_1)) (e_brT (e_lfT t_169_2) (e_brT (e_lfT t_169_3) (e_lfT t_169_4)))) (e_brT (e_brT (e_lfT t_169_5) (e_lfT t_169_8)) (e_brT (e_lfT t_169_11) (e_brT (e_lfT t_169_14) (e_lfT t_169_15))))) (e_brT (e_brT (e_brT (e_lfT t_169_16) (e_lfT t_169_17)) (e_brT (e_lfT t_169_20) (e_brT (e_lfT t_169_23) (e_lfT t_169_24)))) (e_brT (e_brT (e_lfT t_169_28) (e_brT (e_lfT t_169_29) (e_lfT t_169_32))) (e_brT (e_lfT t_169_58) (e_brT (e_lfT t_169_59) (e_lfT t_169_93))))))
theorem hq_170 : (e_ml[170]?).map (·.2.1) = some prog_14_method_37_code := rfl
theorem ho_170 : (e_ml[170]?).map (·.1.cls) = some "PlateroomprinterModel" := rfl
theorem hr_170 : (e_ml[170]?).map (·.2.2.2) = some (some .int) := rfl
theorem t_170_0 : e_Sn 170 0 (o_load e_okR 0 1) := s_aload (i := .aload_n 0) (len := 1) hq_170 (by decide +kernel) rfl (.inr ⟨0, rfl, rfl, rfl⟩)
theorem t_170_1 : e_Sn 170 1 (o_push (.inl 2147483648) 2) := s_iconst (n := (0)) hq_170 (by decide +kernel) rfl ⟨by decide +kernel, by decide +kernel⟩
theorem t_170_2 : e_Sn 170 2 (o_putf (e_f1 12 0) e_okI 5) := s_putf (ty0 := ey_12) (ok := e_okI) (C := er_12) (T := et_12) (N := 5) (ref := "PlateroomprinterModel") (index := 124) (ci := 12) (k := 0) hq_170 ho_170 ⟨rfl, by decide, ei_12, (List.mem_of_getElem? (i := 1958) (by decide +kernel)), .inl rfl⟩ eo_12 en_12 e_oksI (.inl rfl) (by decide +kernel) rfl
theorem t_170_5 : e_Sn 170 5 (o_load e_okR 0 6) := s_aload (i := .aload_n 0) (len := 1) hq_170 (by decide +kernel) rfl (.inr ⟨0, rfl, rfl, rfl⟩)
theorem t_170_6 : e_Sn 170 6 (o_getf (e_f1 12 1) 9) := s_getf (C := er_12) (T := et_12) (N := 5) (ref := "PlateroomprinterModel") (index := 10) (ci := 12) (k := 1) hq_170 ho_170 ⟨rfl, by decide, ei_12, (List.mem_of_getElem? (i := 1959) (by decide +kernel)), .inl rfl⟩ (by decide +kernel) rfl
theorem t_170_9 : e_Sn 170 9 (o_getf (e_f1 13 0) 12) := s_getf (C := er_13) (T := et_13) (N := 13) (ref := "PlateroomprinterModel$Machine") (index := 187) (ci := 13) (k := 0) hq_170 ho_170 ⟨rfl, by decide, ei_13, (List.mem_of_getElem? (i := 1892) (by decide +kernel)), .inl rfl⟩ (by decide +kernel) rfl
theorem t_170_12 : e_Sn 170 12 (o_callV (e_s1 18 234 1) 1 15) := s_callV (ci := 18) (C := er_18) (T := et_18) (N := 3) (index := 74) hq_170 ho_170 hy_234 hp_234 hc_234 hi_234 hd_234 (List.mem_of_getElem? (i := 2000) (by decide +kernel)) hs_234 (List.mem_of_getElem? (i := 2002) (by decide +kernel)) rfl (by decide +kernel) rfl
theorem t_170_15 : e_Sn 170 15 (o_ret e_okI) := s_iret hq_170 hr_170 (by decide +kernel)
noncomputable def e_tb_170 : e_X := (e_br 6 (e_br 2 (e_br 1 (e_lf 0 (o_load e_okR 0 1)) (e_lf 1 (o_push (.inl 2147483648) 2))) (e_br 5 (e_lf 2 (o_putf (e_f1 12 0) e_okI 5)) (e_lf 5 (o_load e_okR 0 6)))) (e_br 12 (e_br 9 (e_lf 6 (o_getf (e_f1 12 1) 9)) (e_lf 9 (o_getf (e_f1 13 0) 12))) (e_br 15 (e_lf 12 (o_callV (e_s1 18 234 1) 1 15)) (e_lf 15 (o_ret e_okI)))))
theorem e_tk_170 : e_Tb 170 e_tb_170 := (e_brT (e_brT (e_brT (e_lfT t_170_0) (e_lfT t_170_1)) (e_brT (e_lfT t_170_2) (e_lfT t_170_5))) (e_brT (e_brT (e_lfT t_170_6) (e_lfT t_170_9)) (e_brT (e_lfT t_170_12) (e_lfT t_170_15))))
theorem hq_171 : (e_ml[171]?).map (·.2.1) = some prog_14_method_33_code := rfl
theorem ho_171 : (e_ml[171]?).map (·.1.cls) = some "PlateroomprinterModel" := rfl
theorem hr_171 : (e_ml[171]?).map (·.2.2.2) = some (some .int) := rfl
theorem t_171_0 : e_Sn 171 0 (o_load e_okR 0 1) := s_aload (i := .aload_n 0) (len := 1) hq_171 (by decide +kernel) rfl (.inr ⟨0, rfl, rfl, rfl⟩)
theorem t_171_1 : e_Sn 171 1 (o_push (.inl 2147483648) 2) := s_iconst (n := (0)) hq_171 (by decide +kernel) rfl ⟨by decide +kernel, by decide +kernel⟩
theorem t_171_2 : e_Sn 171 2 (o_putf (e_f1 12 0) e_okI 5) := s_putf (ty0 := ey_12) (ok := e_okI) (C := er_12) (T := et_12) (N := 5) (ref := "PlateroomprinterModel") (index := 124) (ci := 12) (k := 0) hq_171 ho_171 ⟨rfl, by decide, ei_12, (List.mem_of_getElem? (i := 1958) (by decide +kernel)), .inl rfl⟩ eo_12 en_12 e_oksI (.inl rfl) (by decide +kernel) rfl
theorem t_171_5 : e_Sn 171 5 (o_load e_okR 0 6) := s_aload (i := .aload_n 0) (len := 1) hq_171 (by decide +kernel) rfl (.inr ⟨0, rfl, rfl, rfl⟩)
theorem t_171_6 : e_Sn 171 6 (o_dup 7) := s_dup hq_171 (by decide +kernel) rfl
theorem t_171_7 : e_Sn 171 7 (o_getf (e_f1 12 4) 10) := s_getf (C := er_12) (T := et_12) (N := 5) (ref := "PlateroomprinterModel") (index := 184) (ci := 12) (k := 4) hq_171 ho_171 ⟨rfl, by decide, ei_12, (List.mem_of_getElem? (i := 1962) (by decide +kernel)), .inl rfl⟩ (by decide +kernel) rfl
theorem t_171_10 : e_Sn 171 10 (o_push (.inl 2147483649) 11) := s_iconst (n := (1)) hq_171 (by decide +kernel) rfl ⟨by decide +kernel, by decide +kernel⟩
theorem t_171_11 : e_Sn 171 11 (o_iadd 12) := s_iadd hq_171 (by decide +kernel) rfl
theorem t_171_12 : e_Sn 171 12 (o_putf (e_f1 12 4) e_okI 15) := s_putf (ty0 := ey_12) (ok := e_okI) (C := er_12) (T := et_12) (N := 5) (ref := "PlateroomprinterModel") (index := 184) (ci := 12) (k := 4) hq_171 ho_171 ⟨rfl, by decide, ei_12, (List.mem_of_getElem? (i := 1962) (by decide +kernel)), .inl rfl⟩ eo_12 en_12 e_oksI (.inl rfl) (by decide +kernel) rfl
theorem t_171_15 : e_Sn 171 15 (o_load e_okR 0 16) := s_aload (i := .aload_n 0) (len := 1) hq_171 (by decide +kernel) rfl (.inr ⟨0, rfl, rfl, rfl⟩)
theorem t_171_16 : e_Sn 171 16 (o_getf (e_f1 12 4) 19) := s_getf (C := er_12) (T := et_12) (N := 5) (ref := "PlateroomprinterModel") (index := 184) (ci := 12) (k := 4) hq_171 ho_171 ⟨rfl, by decide, ei_12, (List.mem_of_getElem? (i := 1962) (by decide +kernel)), .inl rfl⟩ (by decide +kernel) rfl
theorem t_171_19 : e_Sn 171 19 (o_ret e_okI) := s_iret hq_171 hr_171 (by decide +kernel)
noncomputable def e_tb_171 : e_X := (e_br 10 (e_br 5 (e_br 1 (e_lf 0 (o_load e_okR 0 1)) (e_br 2 (e_lf 1 (o_push (.inl 2147483648) 2)) (e_lf 2 (o_putf (e_f1 12 0) e_okI 5)))) (e_br 6 (e_lf 5 (o_load e_okR 0 6)) (e_br 7 (e_lf 6 (o_dup 7)) (e_lf 7 (o_getf (e_f1 12 4) 10))))) (e_br 15 (e_br 11 (e_lf 10 (o_push (.inl 2147483649) 11)) (e_br 12 (e_lf 11 (o_iadd 12)) (e_lf 12 (o_putf (e_f1 12 4) e_okI 15)))) (e_br 16 (e_lf 15 (o_load e_okR 0 16)) (e_br 19 (e_lf 16 (o_getf (e_f1 12 4) 19)) (e_lf 19 (o_ret e_okI))))))
theorem e_tk_171 : e_Tb 171 e_tb_171 := (e_brT (e_brT (e_brT (e_lfT t_171_0) (e_brT (e_lfT t_171_1) (e_lfT t_171_2))) (e_brT (e_lfT t_171_5) (e_brT (e_lfT t_171_6) (e_lfT t_171_7)))) (e_brT (e_brT (e_lfT t_171_10) (e_brT (e_lfT t_171_11) (e_lfT t_171_12))) (e_brT (e_lfT t_171_15) (e_brT (e_lfT t_171_16) (e_lfT t_171_19)))))
theorem hq_172 : (e_ml[172]?).map (·.2.1) = some prog_14_method_67_code := rfl
theorem ho_172 : (e_ml[172]?).map (·.1.cls) = some "PlateroomprinterModel" := rfl
theorem hr_172 : (e_ml[172]?).map (·.2.2.2) = some (some .int) := rfl
theorem t_172_0 : e_Sn 172 0 (o_load e_okR 0 1) := s_aload (i := .aload_n 0) (len := 1) hq_172 (by decide +kernel) rfl (.inr ⟨0, rfl, rfl, rfl⟩)
theorem t_172_1 : e_Sn 172 1 (o_load e_okI 1 2) := s_iload (i := .iload_n 1) (len := 1) hq_172 (by decide +kernel) rfl (.inr ⟨1, rfl, rfl, rfl⟩)
theorem t_172_2 : e_Sn 172 2 (o_load e_okI 2 3) := s_iload (i := .iload_n 2) (len := 1) hq_172 (by decide +kernel) rfl (.inr ⟨2, rfl, rfl, rfl⟩)
theorem t_172_3 : e_Sn 172 3 (o_callS 163 2 2 6) := s_callS (index := 288) hq_172 ho_172 hy_163 hp_163 hc_163 hi_163 hd_163 (List.mem_of_getElem? (i := 3006) (by decide +kernel)) hs_163 (by decide +kernel) rfl
theorem t_172_6 : e_Sn 172 6 (o_push (.inl 2147483649) 7) := s_iconst (n := (1)) hq_172 (by decide +kernel) rfl ⟨by decide +kernel, by decide +kernel⟩
theorem t_172_7 : e_Sn 172 7 (o_callV (e_s1 12 195 3) 3 10) := s_callV (ci := 12) (C := er_12) (T := et_12) (N := 5) (index := 148) hq_172 ho_172 hy_195 hp_195 hc_195 hi_195 hd_195 (List.mem_of_getElem? (i := 1992) (by decide +kernel)) hs_195 (List.mem_of_getElem? (i := 73) (by decide +kernel)) rfl (by decide +kernel) rfl
theorem t_172_10 : e_Sn 172 10 (o_ifeq 15 13) := s_ifeq (off := (5)) hq_172 (by decide +kernel) rfl rfl
theorem t_172_13 : e_Sn 172 13 (o_push (.inl 2147483648) 14) := s_iconst (n := (0)) hq_172 (by decide +kernel) rfl ⟨by decide +kernel, by decide +kernel⟩
theorem t_172_14 : e_Sn 172 14 (o_ret e_okI) := s_iret hq_172 hr_172 (by decide +kernel)
theorem t_172_15 : e_Sn 172 15 (o_push (.inl 2147483647) 16) := s_iconst (n := (-1)) hq_172 (by decide +kernel) rfl ⟨by decide +kernel, by decide +kernel⟩
theorem t_172_16 : e_Sn 172 16 (o_store e_okI 3 17) := s_istore (i := .istore_n 3) (len := 1) hq_172 (by decide +kernel) rfl (.inr ⟨3, rfl, rfl, rfl⟩)
theorem t_172_17 : e_Sn 172 17 (o_push (.inl 2147483648) 18) := s_iconst (n := (0)) hq_172 (by decide +kernel) rfl ⟨by decide +kernel, by decide +kernel⟩
theorem t_172_18 : e_Sn 172 18 (o_store e_okI 4 20) := s_istore (i := .istore 4) (len := 2) hq_172 (by decide +kernel) rfl (.inl ⟨rfl, rfl⟩)
theorem t_172_20 : e_Sn 172 20 (o_load e_okI 4 22) := s_iload (i := .iload 4) (len := 2) hq_172 (by decide +kernel) rfl (.inl ⟨rfl, rfl⟩)
theorem t_172_22 : e_Sn 172 22 (o_load e_okR 0 23) := s_aload (i := .aload_n 0) (len := 1) hq_172 (by decide +kernel) rfl (.inr ⟨0, rfl, rfl, rfl⟩)
theorem t_172_23 : e_Sn 172 23 (o_getf (e_f1 12 1) 26) := s_getf (C := er_12) (T := et_12) (N := 5) (ref := "PlateroomprinterModel") (index := 10) (ci := 12) (k := 1) hq_172 ho_172 ⟨rfl, by decide, ei_12, (List.mem_of_getElem? (i := 1959) (by decide +kernel)), .inl rfl⟩ (by decide +kernel) rfl
theorem t_172_26 : e_Sn 172 26 (o_getf (e_f1 13 5) 29) := s_getf (C := er_13) (T := et_13) (N := 13) (ref := "PlateroomprinterModel$Machine") (index := 311) (ci := 13) (k := 5) hq_172 ho_172 ⟨rfl, by decide, ei_13, (List.mem_of_getElem? (i := 1907) (by decide +kernel)), .inl rfl⟩ (by decide +kernel) rfl
theorem t_172_29 : e_Sn 172 29 (o_callV (e_s1 18 234 1) 1 32) := s_callV (ci := 18) (C := er_18) (T := et_18) (N := 3) (index := 74) hq_172 ho_172 hy_234 hp_234 hc_234 hi_234 hd_234 (List.mem_of_getElem? (i := 2000) (by decide +kernel)) hs_234 (List.mem_of_getElem? (i := 2002) (by decide +kernel)) rfl (by decide +kernel) rfl
theorem t_172_32 : e_Sn 172 32 (o_clt 35 72) := s_cge (off := (40)) hq_172 (by decide +kernel) rfl rfl
theorem t_172_72 : e_Sn 172 72 (o_load e_okI 3 73) := s_iload (i := .iload_n 3) (len := 1) hq_172 (by decide +kernel) rfl (.inr ⟨3, rfl, rfl, rfl⟩)
theorem t_172_73 : e_Sn 172 73 (o_ret e_okI) := s_iret hq_172 hr_172 (by decide +kernel)
noncomputable def e_tb_172 : e_X := (e_br 16 (e_br 7 (e_br 2 (e_br 1 (e_lf 0 (o_load e_okR 0 1)) (e_lf 1 (o_load e_okI 1 2))) (e_br 3 (e_lf 2 (o_load e_okI 2 3)) (e_br 6 (e_lf 3 (o_callS 163 2 2 6)) (e_lf 6 (o_push (.inl 2147483649) 7))))) (e_br 13 (e_br 10 (e_lf 7 (o_callV (e_s1 12 195 3) 3 10)) (e_lf 10 (o_ifeq 15 13))) (e_br 14 (e_lf 13 (o_push (.inl 2147483648) 14)) (e_br 15 (e_lf 14 (o_ret e_okI)) (e_lf 15 (o_push (.inl 2147483647) 16)))))) (e_br 23 (e_br 18 (e_br 17 (e_lf 16 (o_store e_okI 3 17)) (e_lf 17 (o_push (.inl 2147483648) 18))) (e_br 20 (e_lf 18 (o_store e_okI 4 20)) (e_br 22 (e_lf 20 (o_load e_okI 4 22)) (e_lf 22 (o_load e_okR 0 23))))) (e_br 32 (e_br 26 (e_lf 23 (o_getf (e_f1 12 1) 26)) (e_br 29 (e_lf 26 (o_getf (e_f1 13 5) 29)) (e_lf 29 (o_callV (e_s1 18 234 1) 1 32)))) (e_br 72 (e_lf 32 (o_clt 35 72)) (e_br 73 (e_lf 72 (o_load e_okI 3 73)) (e_lf 73 (o_ret e_okI)))))))
theorem e_tk_172 : e_Tb 172 e_tb_172 := (e_brT (e_brT (e_brT (e_brT (e_lfT t_172_0) (e_lfT t_172_1)) (e_brT (e_lfT t_172_2) (e_brT (e_lfT t_172_3) (e_lfT t_172_6)))) (e_brT (e_brT (e_lfT t_172_7) (e_lfT t_172_10)) (e_brT (e_lfT t_172_13) (e_brT (e_lfT t_172_14) (e_lfT t_172_15))))) (e_brT (e_brT (e_brT (e_lfT t_172_16) (e_lfT t_172_17)) (e_brT (e_lfT t_172_18) (e_brT (e_lfT t_172_20) (e_lfT t_172_22)))) (e_brT (e_brT (e_lfT t_172_23) (e_brT (e_lfT t_172_26) (e_lfT t_172_29))) (e_brT (e_lfT t_172_32) (e_brT (e_lfT t_172_72) (e_lfT t_172_73))))))
theorem hq_173 : (e_ml[173]?).map (·.2.1) = some prog_14_method_81_code := rfl
theorem ho_173 : (e_ml[173]?).map (·.1.cls) = some "PlateroomprinterModel" := rfl
theorem hr_173 : (e_ml[173]?).map (·.2.2.2) = some (some .int) := rfl
theorem t_173_0 : e_Sn 173 0 (o_load e_okR 0 1) := s_aload (i := .aload_n 0) (len := 1) hq_173 (by decide +kernel) rfl (.inr ⟨0, rfl, rfl, rfl⟩)
theorem t_173_1 : e_Sn 173 1 (o_load e_okI 1 2) := s_iload (i := .iload_n 1) (len := 1) hq_173 (by decide +kernel) rfl (.inr ⟨1, rfl, rfl, rfl⟩)
theorem t_173_2 : e_Sn 173 2 (o_load e_okI 2 3) := s_iload (i := .iload_n 2) (len := 1) hq_173 (by decide +kernel) rfl (.inr ⟨2, rfl, rfl, rfl⟩)
theorem t_173_3 : e_Sn 173 3 (o_callS 163 2 2 6) := s_callS (index := 288) hq_173 ho_173 hy_163 hp_163 hc_163 hi_163 hd_163 (List.mem_of_getElem? (i := 3006) (by decide +kernel)) hs_163 (by decide +kernel) rfl
theorem t_173_6 : e_Sn 173 6 (o_push (.inl 2147483649) 7) := s_iconst (n := (1)) hq_173 (by decide +kernel) rfl ⟨by decide +kernel, by decide +kernel⟩
theorem t_173_7 : e_Sn 173 7 (o_callV (e_s1 12 195 3) 3 10) := s_callV (ci := 12) (C := er_12) (T := et_12) (N := 5) (index := 148) hq_173 ho_173 hy_195 hp_195 hc_195 hi_195 hd_195 (List.mem_of_getElem? (i := 1992) (by decide +kernel)) hs_195 (List.mem_of_getElem? (i := 73) (by decide +kernel)) rfl (by decide +kernel) rfl
theorem t_173_10 : e_Sn 173 10 (o_ifeq 17 13) := s_ifeq (off := (7)) hq_173 (by decide +kernel) rfl rfl
theorem t_173_13 : e_Sn 173 13 (o_push (.inl 2147483648) 14) := s_iconst (n := (0)) hq_173 (by decide +kernel) rfl ⟨by decide +kernel, by decide +kernel⟩
theorem t_173_14 : e_Sn 173 14 (o_goto 47) := s_goto (off := (33)) hq_173 (by decide +kernel) rfl
theorem t_173_17 : e_Sn 173 17 (o_load e_okR 0 18) := s_aload (i := .aload_n 0) (len := 1) hq_173 (by decide +kernel) rfl (.inr ⟨0, rfl, rfl, rfl⟩)
theorem t_173_18 : e_Sn 173 18 (o_getf (e_f1 12 1) 21) := s_getf (C := er_12) (T := et_12) (N := 5) (ref := "PlateroomprinterModel") (index := 10) (ci := 12) (k := 1) hq_173 ho_173 ⟨rfl, by decide, ei_12, (List.mem_of_getElem? (i := 1959) (by decide +kernel)), .inl rfl⟩ (by decide +kernel) rfl
theorem t_173_21 : e_Sn 173 21 (o_getf (e_f1 13 7) 24) := s_getf (C := er_13) (T := et_13) (N := 13) (ref := "PlateroomprinterModel$Machine") (index := 364) (ci := 13) (k := 7) hq_173 ho_173 ⟨rfl, by decide, ei_13, (List.mem_of_getElem? (i := 1913) (by decide +kernel)), .inl rfl⟩ (by decide +kernel) rfl
theorem t_173_24 : e_Sn 173 24 (o_null 27 31) := s_ifnonnull (off := (7)) hq_173 (by decide +kernel) rfl rfl
theorem t_173_27 : e_Sn 173 27 (o_push (.inl 2147483647) 28) := s_iconst (n := (-1)) hq_173 (by decide +kernel) rfl ⟨by decide +kernel, by decide +kernel⟩
theorem t_173_28 : e_Sn 173 28 (o_goto 47) := s_goto (off := (19)) hq_173 (by decide +kernel) rfl
theorem t_173_47 : e_Sn 173 47 (o_ret e_okI) := s_iret hq_173 hr_173 (by decide +kernel)
noncomputable def e_tb_173 : e_X := (e_br 14 (e_br 6 (e_br 2 (e_br 1 (e_lf 0 (o_load e_okR 0 1)) (e_lf 1 (o_load e_okI 1 2))) (e_br 3 (e_lf 2 (o_load e_okI 2 3)) (e_lf 3 (o_callS 163 2 2 6)))) (e_br 10 (e_br 7 (e_lf 6 (o_push (.inl 2147483649) 7)) (e_lf 7 (o_callV (e_s1 12 195 3) 3 10))) (e_br 13 (e_lf 10 (o_ifeq 17 13)) (e_lf 13 (o_push (.inl 2147483648) 14))))) (e_br 24 (e_br 18 (e_br 17 (e_lf 14 (o_goto 47)) (e_lf 17 (o_load e_okR 0 18))) (e_br 21 (e_lf 18 (o_getf (e_f1 12 1) 21)) (e_lf 21 (o_getf (e_f1 13 7) 24)))) (e_br 28 (e_br 27 (e_lf 24 (o_null 27 31)) (e_lf 27 (o_push (.inl 2147483647) 28))) (e_br 47 (e_lf 28 (o_goto 47)) (e_lf 47 (o_ret e_okI))))))
theorem e_tk_173 : e_Tb 173 e_tb_173 := (e_brT (e_brT (e_brT (e_brT (e_lfT t_173_0) (e_lfT t_173_1)) (e_brT (e_lfT t_173_2) (e_lfT t_173_3))) (e_brT (e_brT (e_lfT t_173_6) (e_lfT t_173_7)) (e_brT (e_lfT t_173_10) (e_lfT t_173_13)))) (e_brT (e_brT (e_brT (e_lfT t_173_14) (e_lfT t_173_17)) (e_brT (e_lfT t_173_18) (e_lfT t_173_21))) (e_brT (e_brT (e_lfT t_173_24) (e_lfT t_173_27)) (e_brT (e_lfT t_173_28) (e_lfT t_173_47)))))
theorem hq_174 : (e_ml[174]?).map (·.2.1) = some prog_14_method_18_code := rfl
theorem ho_174 : (e_ml[174]?).map (·.1.cls) = some "PlateroomprinterModel" := rfl
theorem hr_174 : (e_ml[174]?).map (·.2.2.2) = some (some .int) := rfl
theorem t_174_0 : e_Sn 174 0 (o_push (.inl 2147483648) 1) := s_iconst (n := (0)) hq_174 (by decide +kernel) rfl ⟨by decide +kernel, by decide +kernel⟩
theorem t_174_1 : e_Sn 174 1 (o_store e_okI 1 2) := s_istore (i := .istore_n 1) (len := 1) hq_174 (by decide +kernel) rfl (.inr ⟨1, rfl, rfl, rfl⟩)
theorem t_174_2 : e_Sn 174 2 (o_load e_okR 0 3) := s_aload (i := .aload_n 0) (len := 1) hq_174 (by decide +kernel) rfl (.inr ⟨0, rfl, rfl, rfl⟩)
theorem t_174_3 : e_Sn 174 3 (o_store e_okR 2 4) := s_astore (i := .astore_n 2) (len := 1) hq_174 (by decide +kernel) rfl (.inr ⟨2, rfl, rfl, rfl⟩)
theorem t_174_4 : e_Sn 174 4 (o_load e_okR 2 5) := s_aload (i := .aload_n 2) (len := 1) hq_174 (by decide +kernel) rfl (.inr ⟨2, rfl, rfl, rfl⟩)
theorem t_174_5 : e_Sn 174 5 (o_alen e_fcs 6) := s_alen hq_174 (by decide +kernel) rfl
theorem t_174_6 : e_Sn 174 6 (o_store e_okI 3 7) := s_istore (i := .istore_n 3) (len := 1) hq_174 (by decide +kernel) rfl (.inr ⟨3, rfl, rfl, rfl⟩)
theorem t_174_7 : e_Sn 174 7 (o_push (.inl 2147483648) 8) := s_iconst (n := (0)) hq_174 (by decide +kernel) rfl ⟨by decide +kernel, by decide +kernel⟩
theorem t_174_8 : e_Sn 174 8 (o_store e_okI 4 10) := s_istore (i := .istore 4) (len := 2) hq_174 (by decide +kernel) rfl (.inl ⟨rfl, rfl⟩)
theorem t_174_10 : e_Sn 174 10 (o_load e_okI 4 12) := s_iload (i := .iload 4) (len := 2) hq_174 (by decide +kernel) rfl (.inl ⟨rfl, rfl⟩)
theorem t_174_12 : e_Sn 174 12 (o_load e_okI 3 13) := s_iload (i := .iload_n 3) (len := 1) hq_174 (by decide +kernel) rfl (.inr ⟨3, rfl, rfl, rfl⟩)
theorem t_174_13 : e_Sn 174 13 (o_clt 16 36) := s_cge (off := (23)) hq_174 (by decide +kernel) rfl rfl
theorem t_174_16 : e_Sn 174 16 (o_load e_okR 2 17) := s_aload (i := .aload_n 2) (len := 1) hq_174 (by decide +kernel) rfl (.inr ⟨2, rfl, rfl, rfl⟩)
theorem t_174_17 : e_Sn 174 17 (o_load e_okI 4 19) := s_iload (i := .iload 4) (len := 2) hq_174 (by decide +kernel) rfl (.inl ⟨rfl, rfl⟩)
theorem t_174_19 : e_Sn 174 19 (o_aldO 1 20) := s_zald hq_174 (by decide +kernel) rfl
theorem t_174_20 : e_Sn 174 20 (o_store e_okI 5 22) := s_istore (i := .istore 5) (len := 2) hq_174 (by decide +kernel) rfl (.inl ⟨rfl, rfl⟩)
theorem t_174_22 : e_Sn 174 22 (o_load e_okI 1 23) := s_iload (i := .iload_n 1) (len := 1) hq_174 (by decide +kernel) rfl (.inr ⟨1, rfl, rfl, rfl⟩)
theorem t_174_23 : e_Sn 174 23 (o_load e_okI 5 25) := s_iload (i := .iload 5) (len := 2) hq_174 (by decide +kernel) rfl (.inl ⟨rfl, rfl⟩)
theorem t_174_25 : e_Sn 174 25 (o_callS 180 1 1 28) := s_callS (index := 107) hq_174 ho_174 hy_180 hp_180 hc_180 hi_180 hd_180 (List.mem_of_getElem? (i := 2482) (by decide +kernel)) hs_180 (by decide +kernel) rfl
theorem t_174_28 : e_Sn 174 28 (o_iadd 29) := s_iadd hq_174 (by decide +kernel) rfl
theorem t_174_29 : e_Sn 174 29 (o_store e_okI 1 30) := s_istore (i := .istore_n 1) (len := 1) hq_174 (by decide +kernel) rfl (.inr ⟨1, rfl, rfl, rfl⟩)
theorem t_174_30 : e_Sn 174 30 (o_iinc 4 1 33) := s_iinc (zz := (1)) hq_174 (by decide +kernel) rfl (by decide +kernel) ⟨by decide, by decide⟩
theorem t_174_33 : e_Sn 174 33 (o_goto 10) := s_goto (off := (-23)) hq_174 (by decide +kernel) rfl
theorem t_174_36 : e_Sn 174 36 (o_load e_okI 1 37) := s_iload (i := .iload_n 1) (len := 1) hq_174 (by decide +kernel) rfl (.inr ⟨1, rfl, rfl, rfl⟩)
theorem t_174_37 : e_Sn 174 37 (o_ret e_okI) := s_iret hq_174 hr_174 (by decide +kernel)
noncomputable def e_tb_174 : e_X := (e_br 16 (e_br 6 (e_br 3 (e_br 1 (e_lf 0 (o_push (.inl 2147483648) 1)) (e_br 2 (e_lf 1 (o_store e_okI 1 2)) (e_lf 2 (o_load e_okR 0 3)))) (e_br 4 (e_lf 3 (o_store e_okR 2 4)) (e_br 5 (e_lf 4 (o_load e_okR 2 5)) (e_lf 5 (o_alen e_fcs 6))))) (e_br 10 (e_br 7 (e_lf 6 (o_store e_okI 3 7)) (e_br 8 (e_lf 7 (o_push (.inl 2147483648) 8)) (e_lf 8 (o_store e_okI 4 10)))) (e_br 12 (e_lf 10 (o_load e_okI 4 12)) (e_br 13 (e_lf 12 (o_load e_okI 3 13)) (e_lf 13 (o_clt 16 36)))))) (e_br 25 (e_br 20 (e_br 17 (e_lf 16 (o_load e_okR 2 17)) (e_br 19 (e_lf 17 (o_load e_okI 4 19)) (e_lf 19 (o_aldO 1 20)))) (e_br 22 (e_lf 20 (o_store e_okI 5 22)) (e_br 23 (e_lf 22 (o_load e_okI 1 23)) (e_lf 23 (o_load e_okI 5 25))))) (e_br 30 (e_br 28 (e_lf 25 (o_callS 180 1 1 28)) (e_br 29 (e_lf 28 (o_iadd 29)) (e_lf 29 (o_store e_okI 1 30)))) (e_br 36 (e_br 33 (e_lf 30 (o_iinc 4 1 33)) (e_lf 33 (o_goto 10))) (e_br 37 (e_lf 36 (o_load e_okI 1 37)) (e_lf 37 (o_ret e_okI)))))))
theorem e_tk_174 : e_Tb 174 e_tb_174 := (e_brT (e_brT (e_brT (e_brT (e_lfT t_174_0) (e_brT (e_lfT t_174_1) (e_lfT t_174_2))) (e_brT (e_lfT t_174_3) (e_brT (e_lfT t_174_4) (e_lfT t_174_5)))) (e_brT (e_brT (e_lfT t_174_6) (e_brT (e_lfT t_174_7) (e_lfT t_174_8))) (e_brT (e_lfT t_174_10) (e_brT (e_lfT t_174_12) (e_lfT t_174_13))))) (e_brT (e_brT (e_brT (e_lfT t_174_16) (e_brT (e_lfT t_174_17) (e_lfT t_174_19))) (e_brT (e_lfT t_174_20) (e_brT (e_lfT t_174_22) (e_lfT t_174_23)))) (e_brT (e_brT (e_lfT t_174_25) (e_brT (e_lfT t_174_28) (e_lfT t_174_29))) (e_brT (e_brT (e_lfT t_174_30) (e_lfT t_174_33)) (e_brT (e_lfT t_174_36) (e_lfT t_174_37))))))
theorem hq_175 : (e_ml[175]?).map (·.2.1) = some prog_14_method_47_code := rfl
theorem ho_175 : (e_ml[175]?).map (·.1.cls) = some "PlateroomprinterModel" := rfl
theorem hr_175 : (e_ml[175]?).map (·.2.2.2) = some (some .int) := rfl
theorem t_175_0 : e_Sn 175 0 (o_load e_okR 0 1) := s_aload (i := .aload_n 0) (len := 1) hq_175 (by decide +kernel) rfl (.inr ⟨0, rfl, rfl, rfl⟩)
theorem t_175_1 : e_Sn 175 1 (o_load e_okI 1 2) := s_iload (i := .iload_n 1) (len := 1) hq_175 (by decide +kernel) rfl (.inr ⟨1, rfl, rfl, rfl⟩)
theorem t_175_2 : e_Sn 175 2 (o_i2l 3) := s_i2l hq_175 (by decide +kernel) rfl
theorem t_175_3 : e_Sn 175 3 (o_push (e_L 9223372036854775808) 4) := s_lconst (n := 0) hq_175 (by decide +kernel) rfl ⟨by decide +kernel, by decide +kernel⟩
theorem t_175_4 : e_Sn 175 4 (o_push (e_L 9223372036854775813) 7) := s_ldc2 (index := 256) (v := (5)) hq_175 ho_175 (List.mem_of_getElem? (i := 2964) (by decide +kernel)) (by decide +kernel) rfl ⟨by decide +kernel, by decide +kernel⟩
theorem t_175_7 : e_Sn 175 7 (o_callS 162 6 3 10) := s_callS (index := 136) hq_175 ho_175 hy_162 hp_162 hc_162 hi_162 hd_162 (List.mem_of_getElem? (i := 1987) (by decide +kernel)) hs_162 (by decide +kernel) rfl
theorem t_175_10 : e_Sn 175 10 (o_ifeq 13 17) := s_ifne (off := (7)) hq_175 (by decide +kernel) rfl rfl
theorem t_175_13 : e_Sn 175 13 (o_push (.inl 2147483649) 14) := s_iconst (n := (1)) hq_175 (by decide +kernel) rfl ⟨by decide +kernel, by decide +kernel⟩
theorem t_175_14 : e_Sn 175 14 (o_goto 18) := s_goto (off := (4)) hq_175 (by decide +kernel) rfl
theorem t_175_17 : e_Sn 175 17 (o_push (.inl 2147483648) 18) := s_iconst (n := (0)) hq_175 (by decide +kernel) rfl ⟨by decide +kernel, by decide +kernel⟩
theorem t_175_18 : e_Sn 175 18 (o_push (.inl 2147483649) 19) := s_iconst (n := (1)) hq_175 (by decide +kernel) rfl ⟨by decide +kernel, by decide +kernel⟩
theorem t_175_19 : e_Sn 175 19 (o_callV (e_s1 12 195 3) 3 22) := s_callV (ci := 12) (C := er_12) (T := et_12) (N := 5) (index := 148) hq_175 ho_175 hy_195 hp_195 hc_195 hi_195 hd_195 (List.mem_of_getElem? (i := 1992) (by decide +kernel)) hs_195 (List.mem_of_getElem? (i := 73) (by decide +kernel)) rfl (by decide +kernel) rfl
theorem t_175_22 : e_Sn 175 22 (o_ifeq 25 48) := s_ifne (off := (26)) hq_175 (by decide +kernel) rfl rfl
theorem t_175_25 : e_Sn 175 25 (o_load e_okR 0 26) := s_aload (i := .aload_n 0) (len := 1) hq_175 (by decide +kernel) rfl (.inr ⟨0, rfl, rfl, rfl⟩)
theorem t_175_26 : e_Sn 175 26 (o_load e_okI 2 27) := s_iload (i := .iload_n 2) (len := 1) hq_175 (by decide +kernel) rfl (.inr ⟨2, rfl, rfl, rfl⟩)
theorem t_175_27 : e_Sn 175 27 (o_i2l 28) := s_i2l hq_175 (by decide +kernel) rfl
theorem t_175_28 : e_Sn 175 28 (o_push (e_L 9223372036854775808) 29) := s_lconst (n := 0) hq_175 (by decide +kernel) rfl ⟨by decide +kernel, by decide +kernel⟩
theorem t_175_29 : e_Sn 175 29 (o_push (e_L 9223372036854775809) 30) := s_lconst (n := 1) hq_175 (by decide +kernel) rfl ⟨by decide +kernel, by decide +kernel⟩
theorem t_175_30 : e_Sn 175 30 (o_callS 162 6 3 33) := s_callS (index := 136) hq_175 ho_175 hy_162 hp_162 hc_162 hi_162 hd_162 (List.mem_of_getElem? (i := 1987) (by decide +kernel)) hs_162 (by decide +kernel) rfl
theorem t_175_33 : e_Sn 175 33 (o_ifeq 36 40) := s_ifne (off := (7)) hq_175 (by decide +kernel) rfl rfl
theorem t_175_36 : e_Sn 175 36 (o_push (.inl 2147483649) 37) := s_iconst (n := (1)) hq_175 (by decide +kernel) rfl ⟨by decide +kernel, by decide +kernel⟩
theorem t_175_37 : e_Sn 175 37 (o_goto 41) := s_goto (off := (4)) hq_175 (by decide +kernel) rfl
theorem t_175_40 : e_Sn 175 40 (o_push (.inl 2147483648) 41) := s_iconst (n := (0)) hq_175 (by decide +kernel) rfl ⟨by decide +kernel, by decide +kernel⟩
theorem t_175_41 : e_Sn 175 41 (o_push (.inl 2147483650) 42) := s_iconst (n := (2)) hq_175 (by decide +kernel) rfl ⟨by decide +kernel, by decide +kernel⟩
theorem t_175_42 : e_Sn 175 42 (o_callV (e_s1 12 187 3) 3 45) := s_callV (ci := 12) (C := er_12) (T := et_12) (N := 5) (index := 128) hq_175 ho_175 hy_187 hp_187 hc_187 hi_187 hd_187 (List.mem_of_getElem? (i := 1996) (by decide +kernel)) hs_187 (List.mem_of_getElem? (i := 74) (by decide +kernel)) rfl (by decide +kernel) rfl
theorem t_175_45 : e_Sn 175 45 (o_ifeq 52 48) := s_ifeq (off := (7)) hq_175 (by decide +kernel) rfl rfl
theorem t_175_48 : e_Sn 175 48 (o_push (.inl 2147483648) 49) := s_iconst (n := (0)) hq_175 (by decide +kernel) rfl ⟨by decide +kernel, by decide +kernel⟩
theorem t_175_49 : e_Sn 175 49 (o_goto 58) := s_goto (off := (9)) hq_175 (by decide +kernel) rfl
theorem t_175_52 : e_Sn 175 52 (o_load e_okR 0 53) := s_aload (i := .aload_n 0) (len := 1) hq_175 (by decide +kernel) rfl (.inr ⟨0, rfl, rfl, rfl⟩)
theorem t_175_53 : e_Sn 175 53 (o_load e_okI 1 54) := s_iload (i := .iload_n 1) (len := 1) hq_175 (by decide +kernel) rfl (.inr ⟨1, rfl, rfl, rfl⟩)
theorem t_175_54 : e_Sn 175 54 (o_load e_okI 2 55) := s_iload (i := .iload_n 2) (len := 1) hq_175 (by decide +kernel) rfl (.inr ⟨2, rfl, rfl, rfl⟩)
theorem t_175_55 : e_Sn 175 55 (o_callV (e_s1 12 176 3) 3 58) := s_callV (ci := 12) (C := er_12) (T := et_12) (N := 5) (index := 258) hq_175 ho_175 hy_176 hp_176 hc_176 hi_176 hd_176 (List.mem_of_getElem? (i := 2965) (by decide +kernel)) hs_176 (List.mem_of_getElem? (i := 125) (by decide +kernel)) rfl (by decide +kernel) rfl
theorem t_175_58 : e_Sn 175 58 (o_ret e_okI) := s_iret hq_175 hr_175 (by decide +kernel)
noncomputable def e_tb_175 : e_X := (e_br 28 (e_br 14 (e_br 4 (e_br 2 (e_br 1 (e_lf 0 (o_load e_okR 0 1)) (e_lf 1 (o_load e_okI 1 2))) (e_br 3 (e_lf 2 (o_i2l 3)) (e_lf 3 (o_push (e_L 9223372036854775808) 4)))) (e_br 10 (e_br 7 (e_lf 4 (o_push (e_L 9223372036854775813) 7)) (e_lf 7 (o_callS 162 6 3 10))) (e_br 13 (e_lf 10 (o_ifeq 13 17)) (e_lf 13 (o_push (.inl 2147483649) 14))))) (e_br 22 (e_br 18 (e_br 17 (e_lf 14 (o_goto 18)) (e_lf 17 (o_push (.inl 2147483648) 18))) (e_br 19 (e_lf 18 (o_push (.inl 2147483649) 19)) (e_lf 19 (o_callV (e_s1 12 195 3) 3 22)))) (e_br 26 (e_br 25 (e_lf 22 (o_ifeq 25 48)) (e_lf 25 (o_load e_okR 0 26))) (e_br 27 (e_lf 26 (o_load e_okI 2 27)) (e_lf 27 (o_i2l 28)))))) (e_br 42 (e_br 36 (e_br 30 (e_br 29 (e_lf 28 (o_push (e_L 9223372036854775808) 29)) (e_lf 29 (o_push (e_L 9223372036854775809) 30))) (e_br 33 (e_lf 30 (o_callS 162 6 3 33)) (e_lf 33 (o_ifeq 36 40)))) (e_br 40 (e_br 37 (e_lf 36 (o_push (.inl 2147483649) 37)) (e_lf 37 (o_goto 41))) (e_br 41 (e_lf 40 (o_push (.inl 2147483648) 41)) (e_lf 41 (o_push (.inl 2147483650) 42))))) (e_br 52 (e_br 48 (e_br 45 (e_lf 42 (o_callV (e_s1 12 187 3) 3 45)) (e_lf 45 (o_ifeq 52 48))) (e_br 49 (e_lf 48 (o_push (.inl 2147483648) 49)) (e_lf 49 (o_goto 58)))) (e_br 54 (e_br 53 (e_lf 52 (o_load e_okR 0 53)) (e_lf 53 (o_load e_okI 1 54))) (e_br 55 (e_lf 54 (o_load e_okI 2 55)) (e_br 58 (e_lf 55 (o_callV (e_s1 12 176 3) 3 58)) (e_lf 58 (o_ret e_okI))))))))
theorem e_tk_175 : e_Tb 175 e_tb_175 := (e_brT (e_brT (e_brT (e_brT (e_brT (e_lfT t_175_0) (e_lfT t_175_1)) (e_brT (e_lfT t_175_2) (e_lfT t_175_3))) (e_brT (e_brT (e_lfT t_175_4) (e_lfT t_175_7)) (e_brT (e_lfT t_175_10) (e_lfT t_175_13)))) (e_brT (e_brT (e_brT (e_lfT t_175_14) (e_lfT t_175_17)) (e_brT (e_lfT t_175_18) (e_lfT t_175_19))) (e_brT (e_brT (e_lfT t_175_22) (e_lfT t_175_25)) (e_brT (e_lfT t_175_26) (e_lfT t_175_27))))) (e_brT (e_brT (e_brT (e_brT (e_lfT t_175_28) (e_lfT t_175_29)) (e_brT (e_lfT t_175_30) (e_lfT t_175_33))) (e_brT (e_brT (e_lfT t_175_36) (e_lfT t_175_37)) (e_brT (e_lfT t_175_40) (e_lfT t_175_41)))) (e_brT (e_brT (e_brT (e_lfT t_175_42) (e_lfT t_175_45)) (e_brT (e_lfT t_175_48) (e_lfT t_175_49))) (e_brT (e_brT (e_lfT t_175_52) (e_lfT t_175_53)) (e_brT (e_lfT t_175_54) (e_brT (e_lfT t_175_55) (e_lfT t_175_58)))))))
theorem hq_176 : (e_ml[176]?).map (·.2.1) = some prog_14_method_46_code := rfl
theorem ho_176 : (e_ml[176]?).map (·.1.cls) = some "PlateroomprinterModel" := rfl
theorem hr_176 : (e_ml[176]?).map (·.2.2.2) = some (some .int) := rfl
theorem t_176_0 : e_Sn 176 0 (o_load e_okR 0 1) := s_aload (i := .aload_n 0) (len := 1) hq_176 (by decide +kernel) rfl (.inr ⟨0, rfl, rfl, rfl⟩)
theorem t_176_1 : e_Sn 176 1 (o_getf (e_f1 12 1) 4) := s_getf (C := er_12) (T := et_12) (N := 5) (ref := "PlateroomprinterModel") (index := 10) (ci := 12) (k := 1) hq_176 ho_176 ⟨rfl, by decide, ei_12, (List.mem_of_getElem? (i := 1959) (by decide +kernel)), .inl rfl⟩ (by decide +kernel) rfl
theorem t_176_4 : e_Sn 176 4 (o_getf (e_f1 13 2) 7) := s_getf (C := er_13) (T := et_13) (N := 13) (ref := "PlateroomprinterModel$Machine") (index := 218) (ci := 13) (k := 2) hq_176 ho_176 ⟨rfl, by decide, ei_13, (List.mem_of_getElem? (i := 1898) (by decide +kernel)), .inl rfl⟩ (by decide +kernel) rfl
theorem t_176_7 : e_Sn 176 7 (o_getf (e_f1 17 0) 10) := s_getf (C := er_17) (T := et_17) (N := 6) (ref := "PlateroomprinterModel$State") (index := 252) (ci := 17) (k := 0) hq_176 ho_176 ⟨rfl, by decide, ei_17, (List.mem_of_getElem? (i := 1790) (by decide +kernel)), .inl rfl⟩ (by decide +kernel) rfl
theorem t_176_10 : e_Sn 176 10 (o_push (.inl 2147483650) 11) := s_iconst (n := (2)) hq_176 (by decide +kernel) rfl ⟨by decide +kernel, by decide +kernel⟩
theorem t_176_11 : e_Sn 176 11 (o_load e_okI 1 12) := s_iload (i := .iload_n 1) (len := 1) hq_176 (by decide +kernel) rfl (.inr ⟨1, rfl, rfl, rfl⟩)
theorem t_176_12 : e_Sn 176 12 (o_imul 13) := s_imul hq_176 (by decide +kernel) rfl
theorem t_176_13 : e_Sn 176 13 (o_load e_okI 2 14) := s_iload (i := .iload_n 2) (len := 1) hq_176 (by decide +kernel) rfl (.inr ⟨2, rfl, rfl, rfl⟩)
theorem t_176_14 : e_Sn 176 14 (o_iadd 15) := s_iadd hq_176 (by decide +kernel) rfl
theorem t_176_15 : e_Sn 176 15 (o_aldO 2 16) := s_lald hq_176 (by decide +kernel) rfl
theorem t_176_16 : e_Sn 176 16 (o_l2i 17) := s_l2i hq_176 (by decide +kernel) rfl
theorem t_176_17 : e_Sn 176 17 (o_ret e_okI) := s_iret hq_176 hr_176 (by decide +kernel)
noncomputable def e_tb_176 : e_X := (e_br 12 (e_br 7 (e_br 1 (e_lf 0 (o_load e_okR 0 1)) (e_br 4 (e_lf 1 (o_getf (e_f1 12 1) 4)) (e_lf 4 (o_getf (e_f1 13 2) 7)))) (e_br 10 (e_lf 7 (o_getf (e_f1 17 0) 10)) (e_br 11 (e_lf 10 (o_push (.inl 2147483650) 11)) (e_lf 11 (o_load e_okI 1 12))))) (e_br 15 (e_br 13 (e_lf 12 (o_imul 13)) (e_br 14 (e_lf 13 (o_load e_okI 2 14)) (e_lf 14 (o_iadd 15)))) (e_br 16 (e_lf 15 (o_aldO 2 16)) (e_br 17 (e_lf 16 (o_l2i 17)) (e_lf 17 (o_ret e_okI))))))
theorem e_tk_176 : e_Tb 176 e_tb_176 := (e_brT (e_brT (e_brT (e_lfT t_176_0) (e_brT (e_lfT t_176_1) (e_lfT t_176_4))) (e_brT (e_lfT t_176_7) (e_brT (e_lfT t_176_10) (e_lfT t_176_11)))) (e_brT (e_brT (e_lfT t_176_12) (e_brT (e_lfT t_176_13) (e_lfT t_176_14))) (e_brT (e_lfT t_176_15) (e_brT (e_lfT t_176_16) (e_lfT t_176_17)))))
theorem hq_177 : (e_ml[177]?).map (·.2.1) = some prog_14_method_59_code := rfl
theorem ho_177 : (e_ml[177]?).map (·.1.cls) = some "PlateroomprinterModel" := rfl
theorem hr_177 : (e_ml[177]?).map (·.2.2.2) = some (some .int) := rfl
theorem t_177_0 : e_Sn 177 0 (o_load e_okR 0 1) := s_aload (i := .aload_n 0) (len := 1) hq_177 (by decide +kernel) rfl (.inr ⟨0, rfl, rfl, rfl⟩)
theorem t_177_1 : e_Sn 177 1 (o_load e_okI 1 2) := s_iload (i := .iload_n 1) (len := 1) hq_177 (by decide +kernel) rfl (.inr ⟨1, rfl, rfl, rfl⟩)
theorem t_177_2 : e_Sn 177 2 (o_i2l 3) := s_i2l hq_177 (by decide +kernel) rfl
theorem t_177_3 : e_Sn 177 3 (o_push (e_L 9223372036854775768) 6) := s_ldc2 (index := 295) (v := (-40)) hq_177 ho_177 (List.mem_of_getElem? (i := 3019) (by decide +kernel)) (by decide +kernel) rfl ⟨by decide +kernel, by decide +kernel⟩
theorem t_177_6 : e_Sn 177 6 (o_push (e_L 9223372036854775848) 9) := s_ldc2 (index := 297) (v := (40)) hq_177 ho_177 (List.mem_of_getElem? (i := 3020) (by decide +kernel)) (by decide +kernel) rfl ⟨by decide +kernel, by decide +kernel⟩
theorem t_177_9 : e_Sn 177 9 (o_callS 162 6 3 12) := s_callS (index := 136) hq_177 ho_177 hy_162 hp_162 hc_162 hi_162 hd_162 (List.mem_of_getElem? (i := 1987) (by decide +kernel)) hs_162 (by decide +kernel) rfl
theorem t_177_12 : e_Sn 177 12 (o_ifeq 39 15) := s_ifeq (off := (27)) hq_177 (by decide +kernel) rfl rfl
theorem t_177_15 : e_Sn 177 15 (o_load e_okI 2 16) := s_iload (i := .iload_n 2) (len := 1) hq_177 (by decide +kernel) rfl (.inr ⟨2, rfl, rfl, rfl⟩)
theorem t_177_16 : e_Sn 177 16 (o_i2l 17) := s_i2l hq_177 (by decide +kernel) rfl
theorem t_177_17 : e_Sn 177 17 (o_push (e_L 9223372036854775768) 20) := s_ldc2 (index := 295) (v := (-40)) hq_177 ho_177 (List.mem_of_getElem? (i := 3019) (by decide +kernel)) (by decide +kernel) rfl ⟨by decide +kernel, by decide +kernel⟩
theorem t_177_20 : e_Sn 177 20 (o_push (e_L 9223372036854775848) 23) := s_ldc2 (index := 297) (v := (40)) hq_177 ho_177 (List.mem_of_getElem? (i := 3020) (by decide +kernel)) (by decide +kernel) rfl ⟨by decide +kernel, by decide +kernel⟩
theorem t_177_23 : e_Sn 177 23 (o_callS 162 6 3 26) := s_callS (index := 136) hq_177 ho_177 hy_162 hp_162 hc_162 hi_162 hd_162 (List.mem_of_getElem? (i := 1987) (by decide +kernel)) hs_162 (by decide +kernel) rfl
theorem t_177_26 : e_Sn 177 26 (o_ifeq 39 29) := s_ifeq (off := (13)) hq_177 (by decide +kernel) rfl rfl
theorem t_177_29 : e_Sn 177 29 (o_load e_okI 3 30) := s_iload (i := .iload_n 3) (len := 1) hq_177 (by decide +kernel) rfl (.inr ⟨3, rfl, rfl, rfl⟩)
theorem t_177_30 : e_Sn 177 30 (o_i2l 31) := s_i2l hq_177 (by decide +kernel) rfl
theorem t_177_31 : e_Sn 177 31 (o_push (e_L 9223372036854775808) 32) := s_lconst (n := 0) hq_177 (by decide +kernel) rfl ⟨by decide +kernel, by decide +kernel⟩
theorem t_177_32 : e_Sn 177 32 (o_push (e_L 9223372036854775809) 33) := s_lconst (n := 1) hq_177 (by decide +kernel) rfl ⟨by decide +kernel, by decide +kernel⟩
theorem t_177_33 : e_Sn 177 33 (o_callS 162 6 3 36) := s_callS (index := 136) hq_177 ho_177 hy_162 hp_162 hc_162 hi_162 hd_162 (List.mem_of_getElem? (i := 1987) (by decide +kernel)) hs_162 (by decide +kernel) rfl
theorem t_177_36 : e_Sn 177 36 (o_ifeq 39 43) := s_ifne (off := (7)) hq_177 (by decide +kernel) rfl rfl
theorem t_177_39 : e_Sn 177 39 (o_push (.inl 2147483649) 40) := s_iconst (n := (1)) hq_177 (by decide +kernel) rfl ⟨by decide +kernel, by decide +kernel⟩
theorem t_177_40 : e_Sn 177 40 (o_goto 44) := s_goto (off := (4)) hq_177 (by decide +kernel) rfl
theorem t_177_43 : e_Sn 177 43 (o_push (.inl 2147483648) 44) := s_iconst (n := (0)) hq_177 (by decide +kernel) rfl ⟨by decide +kernel, by decide +kernel⟩
theorem t_177_44 : e_Sn 177 44 (o_push (.inl 2147483649) 45) := s_iconst (n := (1)) hq_177 (by decide +kernel) rfl ⟨by decide +kernel, by decide +kernel⟩
theorem t_177_45 : e_Sn 177 45 (o_callV (e_s1 12 195 3) 3 48) := s_callV (ci := 12) (C := er_12) (T := et_12) (N := 5) (index := 148) hq_177 ho_177 hy_195 hp_195 hc_195 hi_195 hd_195 (List.mem_of_getElem? (i := 1992) (by decide +kernel)) hs_195 (List.mem_of_getElem? (i := 73) (by decide +kernel)) rfl (by decide +kernel) rfl
theorem t_177_48 : e_Sn 177 48 (o_ifeq 55 51) := s_ifeq (off := (7)) hq_177 (by decide +kernel) rfl rfl
theorem t_177_51 : e_Sn 177 51 (o_push (.inl 2147483648) 52) := s_iconst (n := (0)) hq_177 (by decide +kernel) rfl ⟨by decide +kernel, by decide +kernel⟩
theorem t_177_52 : e_Sn 177 52 (o_goto 77) := s_goto (off := (25)) hq_177 (by decide +kernel) rfl
theorem t_177_55 : e_Sn 177 55 (o_load e_okR 0 56) := s_aload (i := .aload_n 0) (len := 1) hq_177 (by decide +kernel) rfl (.inr ⟨0, rfl, rfl, rfl⟩)
theorem t_177_56 : e_Sn 177 56 (o_callV (e_s1 12 184 1) 1 59) := s_callV (ci := 12) (C := er_12) (T := et_12) (N := 5) (index := 261) hq_177 ho_177 hy_184 hp_184 hc_184 hi_184 hd_184 (List.mem_of_getElem? (i := 2977) (by decide +kernel)) hs_184 (List.mem_of_getElem? (i := 127) (by decide +kernel)) rfl (by decide +kernel) rfl
theorem t_177_59 : e_Sn 177 59 (o_push (.inl 2147483664) 61) := s_bipush (n := (16)) hq_177 (by decide +kernel) rfl ⟨by decide +kernel, by decide +kernel⟩
theorem t_177_61 : e_Sn 177 61 (o_load e_okI 1 62) := s_iload (i := .iload_n 1) (len := 1) hq_177 (by decide +kernel) rfl (.inr ⟨1, rfl, rfl, rfl⟩)
theorem t_177_62 : e_Sn 177 62 (o_imul 63) := s_imul hq_177 (by decide +kernel) rfl
theorem t_177_63 : e_Sn 177 63 (o_push (.inl 2147483664) 65) := s_bipush (n := (16)) hq_177 (by decide +kernel) rfl ⟨by decide +kernel, by decide +kernel⟩
theorem t_177_65 : e_Sn 177 65 (o_load e_okI 2 66) := s_iload (i := .iload_n 2) (len := 1) hq_177 (by decide +kernel) rfl (.inr ⟨2, rfl, rfl, rfl⟩)
theorem t_177_66 : e_Sn 177 66 (o_imul 67) := s_imul hq_177 (by decide +kernel) rfl
theorem t_177_67 : e_Sn 177 67 (o_callS 137 5 3 70) := s_callS (index := 299) hq_177 ho_177 hy_137 hp_137 hc_137 hi_137 hd_137 (List.mem_of_getElem? (i := 3021) (by decide +kernel)) hs_137 (by decide +kernel) rfl
theorem t_177_70 : e_Sn 177 70 (o_load e_okI 3 71) := s_iload (i := .iload_n 3) (len := 1) hq_177 (by decide +kernel) rfl (.inr ⟨3, rfl, rfl, rfl⟩)
theorem t_177_71 : e_Sn 177 71 (o_callS 148 4 2 74) := s_callS (index := 291) hq_177 ho_177 hy_148 hp_148 hc_148 hi_148 hd_148 (List.mem_of_getElem? (i := 3014) (by decide +kernel)) hs_148 (by decide +kernel) rfl
theorem t_177_74 : e_Sn 177 74 (o_callS 174 6 1 77) := s_callS (index := 240) hq_177 ho_177 hy_174 hp_174 hc_174 hi_174 hd_174 (List.mem_of_getElem? (i := 2959) (by decide +kernel)) hs_174 (by decide +kernel) rfl
theorem t_177_77 : e_Sn 177 77 (o_ret e_okI) := s_iret hq_177 hr_177 (by decide +kernel)
noncomputable def e_tb_177 : e_X := (e_br 40 (e_br 20 (e_br 9 (e_br 2 (e_br 1 (e_lf 0 (o_load e_okR 0 1)) (e_lf 1 (o_load e_okI 1 2))) (e_br 3 (e_lf 2 (o_i2l 3)) (e_br 6 (e_lf 3 (o_push (e_L 9223372036854775768) 6)) (e_lf 6 (o_push (e_L 9223372036854775848) 9))))) (e_br 15 (e_br 12 (e_lf 9 (o_callS 162 6 3 12)) (e_lf 12 (o_ifeq 39 15))) (e_br 16 (e_lf 15 (o_load e_okI 2 16)) (e_br 17 (e_lf 16 (o_i2l 17)) (e_lf 17 (o_push (e_L 9223372036854775768) 20)))))) (e_br 31 (e_br 26 (e_br 23 (e_lf 20 (o_push (e_L 9223372036854775848) 23)) (e_lf 23 (o_callS 162 6 3 26))) (e_br 29 (e_lf 26 (o_ifeq 39 29)) (e_br 30 (e_lf 29 (o_load e_okI 3 30)) (e_lf 30 (o_i2l 31))))) (e_br 33 (e_br 32 (e_lf 31 (o_push (e_L 9223372036854775808) 32)) (e_lf 32 (o_push (e_L 9223372036854775809) 33))) (e_br 36 (e_lf 33 (o_callS 162 6 3 36)) (e_br 39 (e_lf 36 (o_ifeq 39 43)) (e_lf 39 (o_push (.inl 2147483649) 40))))))) (e_br 61 (e_br 51 (e_br 44 (e_br 43 (e_lf 40 (o_goto 44)) (e_lf 43 (o_push (.inl 2147483648) 44))) (e_br 45 (e_lf 44 (o_push (.inl 2147483649) 45)) (e_br 48 (e_lf 45 (o_callV (e_s1 12 195 3) 3 48)) (e_lf 48 (o_ifeq 55 51))))) (e_br 55 (e_br 52 (e_lf 51 (o_push (.inl 2147483648) 52)) (e_lf 52 (o_goto 77))) (e_br 56 (e_lf 55 (o_load e_okR 0 56)) (e_br 59 (e_lf 56 (o_callV (e_s1 12 184 1) 1 59)) (e_lf 59 (o_push (.inl 2147483664) 61)))))) (e_br 67 (e_br 63 (e_br 62 (e_lf 61 (o_load e_okI 1 62)) (e_lf 62 (o_imul 63))) (e_br 65 (e_lf 63 (o_push (.inl 2147483664) 65)) (e_br 66 (e_lf 65 (o_load e_okI 2 66)) (e_lf 66 (o_imul 67))))) (e_br 71 (e_br 70 (e_lf 67 (o_callS 137 5 3 70)) (e_lf 70 (o_load e_okI 3 71))) (e_br 74 (e_lf 71 (o_callS 148 4 2 74)) (e_br 77 (e_lf 74 (o_callS 174 6 1 77)) (e_lf 77 (o_ret e_okI))))))))
theorem e_tk_177 : e_Tb 177 e_tb_177 := (e_brT (e_brT (e_brT (e_brT (e_brT (e_lfT t_177_0) (e_lfT t_177_1)) (e_brT (e_lfT t_177_2) (e_brT (e_lfT t_177_3) (e_lfT t_177_6)))) (e_brT (e_brT (e_lfT t_177_9) (e_lfT t_177_12)) (e_brT (e_lfT t_177_15) (e_brT (e_lfT t_177_16) (e_lfT t_177_17))))) (e_brT (e_brT (e_brT (e_lfT t_177_20) (e_lfT t_177_23)) (e_brT (e_lfT t_177_26) (e_brT (e_lfT t_177_29) (e_lfT t_177_30)))) (e_brT (e_brT (e_lfT t_177_31) (e_lfT t_177_32)) (e_brT (e_lfT t_177_33) (e_brT (e_lfT t_177_36) (e_lfT t_177_39)))))) (e_brT (e_brT (e_brT (e_brT (e_lfT t_177_40) (e_lfT t_177_43)) (e_brT (e_lfT t_177_44) (e_brT (e_lfT t_177_45) (e_lfT t_177_48)))) (e_brT (e_brT (e_lfT t_177_51) (e_lfT t_177_52)) (e_brT (e_lfT t_177_55) (e_brT (e_lfT t_177_56) (e_lfT t_177_59))))) (e_brT (e_brT (e_brT (e_lfT t_177_61) (e_lfT t_177_62)) (e_brT (e_lfT t_177_63) (e_brT (e_lfT t_177_65) (e_lfT t_177_66)))) (e_brT (e_brT (e_lfT t_177_67) (e_lfT t_177_70)) (e_brT (e_lfT t_177_71) (e_brT (e_lfT t_177_74) (e_lfT t_177_77)))))))
theorem hq_178 : (e_ml[178]?).map (·.2.1) = some prog_14_method_40_code := rfl
theorem ho_178 : (e_ml[178]?).map (·.1.cls) = some "PlateroomprinterModel" := rfl
theorem hr_178 : (e_ml[178]?).map (·.2.2.2) = some (some .int) := rfl
theorem t_178_0 : e_Sn 178 0 (o_load e_okR 0 1) := s_aload (i := .aload_n 0) (len := 1) hq_178 (by decide +kernel) rfl (.inr ⟨0, rfl, rfl, rfl⟩)
theorem t_178_1 : e_Sn 178 1 (o_load e_okI 1 2) := s_iload (i := .iload_n 1) (len := 1) hq_178 (by decide +kernel) rfl (.inr ⟨1, rfl, rfl, rfl⟩)
theorem t_178_2 : e_Sn 178 2 (o_i2l 3) := s_i2l hq_178 (by decide +kernel) rfl
theorem t_178_3 : e_Sn 178 3 (o_push (e_L 9223372036854775808) 4) := s_lconst (n := 0) hq_178 (by decide +kernel) rfl ⟨by decide +kernel, by decide +kernel⟩
theorem t_178_4 : e_Sn 178 4 (o_push (e_L 9223372036854775817) 7) := s_ldc2 (index := 142) (v := (9)) hq_178 ho_178 (List.mem_of_getElem? (i := 1991) (by decide +kernel)) (by decide +kernel) rfl ⟨by decide +kernel, by decide +kernel⟩
theorem t_178_7 : e_Sn 178 7 (o_callS 162 6 3 10) := s_callS (index := 136) hq_178 ho_178 hy_162 hp_162 hc_162 hi_162 hd_162 (List.mem_of_getElem? (i := 1987) (by decide +kernel)) hs_162 (by decide +kernel) rfl
theorem t_178_10 : e_Sn 178 10 (o_ifeq 13 17) := s_ifne (off := (7)) hq_178 (by decide +kernel) rfl rfl
theorem t_178_13 : e_Sn 178 13 (o_push (.inl 2147483649) 14) := s_iconst (n := (1)) hq_178 (by decide +kernel) rfl ⟨by decide +kernel, by decide +kernel⟩
theorem t_178_14 : e_Sn 178 14 (o_goto 18) := s_goto (off := (4)) hq_178 (by decide +kernel) rfl
theorem t_178_17 : e_Sn 178 17 (o_push (.inl 2147483648) 18) := s_iconst (n := (0)) hq_178 (by decide +kernel) rfl ⟨by decide +kernel, by decide +kernel⟩
theorem t_178_18 : e_Sn 178 18 (o_push (.inl 2147483649) 19) := s_iconst (n := (1)) hq_178 (by decide +kernel) rfl ⟨by decide +kernel, by decide +kernel⟩
theorem t_178_19 : e_Sn 178 19 (o_callV (e_s1 12 195 3) 3 22) := s_callV (ci := 12) (C := er_12) (T := et_12) (N := 5) (index := 148) hq_178 ho_178 hy_195 hp_195 hc_195 hi_195 hd_195 (List.mem_of_getElem? (i := 1992) (by decide +kernel)) hs_195 (List.mem_of_getElem? (i := 73) (by decide +kernel)) rfl (by decide +kernel) rfl
theorem t_178_22 : e_Sn 178 22 (o_ifeq 25 48) := s_ifne (off := (26)) hq_178 (by decide +kernel) rfl rfl
theorem t_178_25 : e_Sn 178 25 (o_load e_okR 0 26) := s_aload (i := .aload_n 0) (len := 1) hq_178 (by decide +kernel) rfl (.inr ⟨0, rfl, rfl, rfl⟩)
theorem t_178_26 : e_Sn 178 26 (o_load e_okI 2 27) := s_iload (i := .iload_n 2) (len := 1) hq_178 (by decide +kernel) rfl (.inr ⟨2, rfl, rfl, rfl⟩)
theorem t_178_27 : e_Sn 178 27 (o_i2l 28) := s_i2l hq_178 (by decide +kernel) rfl
theorem t_178_28 : e_Sn 178 28 (o_push (e_L 9223372036854775808) 29) := s_lconst (n := 0) hq_178 (by decide +kernel) rfl ⟨by decide +kernel, by decide +kernel⟩
theorem t_178_29 : e_Sn 178 29 (o_push (e_L 9223372036854775809) 30) := s_lconst (n := 1) hq_178 (by decide +kernel) rfl ⟨by decide +kernel, by decide +kernel⟩
theorem t_178_30 : e_Sn 178 30 (o_callS 162 6 3 33) := s_callS (index := 136) hq_178 ho_178 hy_162 hp_162 hc_162 hi_162 hd_162 (List.mem_of_getElem? (i := 1987) (by decide +kernel)) hs_162 (by decide +kernel) rfl
theorem t_178_33 : e_Sn 178 33 (o_ifeq 36 40) := s_ifne (off := (7)) hq_178 (by decide +kernel) rfl rfl
theorem t_178_36 : e_Sn 178 36 (o_push (.inl 2147483649) 37) := s_iconst (n := (1)) hq_178 (by decide +kernel) rfl ⟨by decide +kernel, by decide +kernel⟩
theorem t_178_37 : e_Sn 178 37 (o_goto 41) := s_goto (off := (4)) hq_178 (by decide +kernel) rfl
theorem t_178_40 : e_Sn 178 40 (o_push (.inl 2147483648) 41) := s_iconst (n := (0)) hq_178 (by decide +kernel) rfl ⟨by decide +kernel, by decide +kernel⟩
theorem t_178_41 : e_Sn 178 41 (o_push (.inl 2147483650) 42) := s_iconst (n := (2)) hq_178 (by decide +kernel) rfl ⟨by decide +kernel, by decide +kernel⟩
theorem t_178_42 : e_Sn 178 42 (o_callV (e_s1 12 187 3) 3 45) := s_callV (ci := 12) (C := er_12) (T := et_12) (N := 5) (index := 128) hq_178 ho_178 hy_187 hp_187 hc_187 hi_187 hd_187 (List.mem_of_getElem? (i := 1996) (by decide +kernel)) hs_187 (List.mem_of_getElem? (i := 74) (by decide +kernel)) rfl (by decide +kernel) rfl
theorem t_178_45 : e_Sn 178 45 (o_ifeq 52 48) := s_ifeq (off := (7)) hq_178 (by decide +kernel) rfl rfl
theorem t_178_48 : e_Sn 178 48 (o_push (.inl 2147483648) 49) := s_iconst (n := (0)) hq_178 (by decide +kernel) rfl ⟨by decide +kernel, by decide +kernel⟩
theorem t_178_49 : e_Sn 178 49 (o_goto 58) := s_goto (off := (9)) hq_178 (by decide +kernel) rfl
theorem t_178_52 : e_Sn 178 52 (o_load e_okR 0 53) := s_aload (i := .aload_n 0) (len := 1) hq_178 (by decide +kernel) rfl (.inr ⟨0, rfl, rfl, rfl⟩)
theorem t_178_53 : e_Sn 178 53 (o_load e_okI 1 54) := s_iload (i := .iload_n 1) (len := 1) hq_178 (by decide +kernel) rfl (.inr ⟨1, rfl, rfl, rfl⟩)
theorem t_178_54 : e_Sn 178 54 (o_load e_okI 2 55) := s_iload (i := .iload_n 2) (len := 1) hq_178 (by decide +kernel) rfl (.inr ⟨2, rfl, rfl, rfl⟩)
theorem t_178_55 : e_Sn 178 55 (o_callV (e_s1 12 179 3) 3 58) := s_callV (ci := 12) (C := er_12) (T := et_12) (N := 5) (index := 199) hq_178 ho_178 hy_179 hp_179 hc_179 hi_179 hd_179 (List.mem_of_getElem? (i := 2933) (by decide +kernel)) hs_179 (List.mem_of_getElem? (i := 122) (by decide +kernel)) rfl (by decide +kernel) rfl
theorem t_178_58 : e_Sn 178 58 (o_ret e_okI) := s_iret hq_178 hr_178 (by decide +kernel)
noncomputable def e_tb_178 : e_X := (e_br 28 (e_br 14 (e_br 4 (e_br 2 (e_br 1 (e_lf 0 (o_load e_okR 0 1)) (e_lf 1 (o_load e_okI 1 2))) (e_br 3 (e_lf 2 (o_i2l 3)) (e_lf 3 (o_push (e_L 9223372036854775808) 4)))) (e_br 10 (e_br 7 (e_lf 4 (o_push (e_L 9223372036854775817) 7)) (e_lf 7 (o_callS 162 6 3 10))) (e_br 13 (e_lf 10 (o_ifeq 13 17)) (e_lf 13 (o_push (.inl 2147483649) 14))))) (e_br 22 (e_br 18 (e_br 17 (e_lf 14 (o_goto 18)) (e_lf 17 (o_push (.inl 2147483648) 18))) (e_br 19 (e_lf 18 (o_push (.inl 2147483649) 19)) (e_lf 19 (o_callV (e_s1 12 195 3) 3 22)))) (e_br 26 (e_br 25 (e_lf 22 (o_ifeq 25 48)) (e_lf 25 (o_load e_okR 0 26))) (e_br 27 (e_lf 26 (o_load e_okI 2 27)) (e_lf 27 (o_i2l 28)))))) (e_br 42 (e_br 36 (e_br 30 (e_br 29 (e_lf 28 (o_push (e_L 9223372036854775808) 29)) (e_lf 29 (o_push (e_L 9223372036854775809) 30))) (e_br 33 (e_lf 30 (o_callS 162 6 3 33)) (e_lf 33 (o_ifeq 36 40)))) (e_br 40 (e_br 37 (e_lf 36 (o_push (.inl 2147483649) 37)) (e_lf 37 (o_goto 41))) (e_br 41 (e_lf 40 (o_push (.inl 2147483648) 41)) (e_lf 41 (o_push (.inl 2147483650) 42))))) (e_br 52 (e_br 48 (e_br 45 (e_lf 42 (o_callV (e_s1 12 187 3) 3 45)) (e_lf 45 (o_ifeq 52 48))) (e_br 49 (e_lf 48 (o_push (.inl 2147483648) 49)) (e_lf 49 (o_goto 58)))) (e_br 54 (e_br 53 (e_lf 52 (o_load e_okR 0 53)) (e_lf 53 (o_load e_okI 1 54))) (e_br 55 (e_lf 54 (o_load e_okI 2 55)) (e_br 58 (e_lf 55 (o_callV (e_s1 12 179 3) 3 58)) (e_lf 58 (o_ret e_okI))))))))
theorem e_tk_178 : e_Tb 178 e_tb_178 := (e_brT (e_brT (e_brT (e_brT (e_brT (e_lfT t_178_0) (e_lfT t_178_1)) (e_brT (e_lfT t_178_2) (e_lfT t_178_3))) (e_brT (e_brT (e_lfT t_178_4) (e_lfT t_178_7)) (e_brT (e_lfT t_178_10) (e_lfT t_178_13)))) (e_brT (e_brT (e_brT (e_lfT t_178_14) (e_lfT t_178_17)) (e_brT (e_lfT t_178_18) (e_lfT t_178_19))) (e_brT (e_brT (e_lfT t_178_22) (e_lfT t_178_25)) (e_brT (e_lfT t_178_26) (e_lfT t_178_27))))) (e_brT (e_brT (e_brT (e_brT (e_lfT t_178_28) (e_lfT t_178_29)) (e_brT (e_lfT t_178_30) (e_lfT t_178_33))) (e_brT (e_brT (e_lfT t_178_36) (e_lfT t_178_37)) (e_brT (e_lfT t_178_40) (e_lfT t_178_41)))) (e_brT (e_brT (e_brT (e_lfT t_178_42) (e_lfT t_178_45)) (e_brT (e_lfT t_178_48) (e_lfT t_178_49))) (e_brT (e_brT (e_lfT t_178_52) (e_lfT t_178_53)) (e_brT (e_lfT t_178_54) (e_brT (e_lfT t_178_55) (e_lfT t_178_58)))))))
theorem hq_179 : (e_ml[179]?).map (·.2.1) = some prog_14_method_39_code := rfl
theorem ho_179 : (e_ml[179]?).map (·.1.cls) = some "PlateroomprinterModel" := rfl
theorem hr_179 : (e_ml[179]?).map (·.2.2.2) = some (some .int) := rfl
theorem t_179_0 : e_Sn 179 0 (o_load e_okR 0 1) := s_aload (i := .aload_n 0) (len := 1) hq_179 (by decide +kernel) rfl (.inr ⟨0, rfl, rfl, rfl⟩)
theorem t_179_1 : e_Sn 179 1 (o_getf (e_f1 12 1) 4) := s_getf (C := er_12) (T := et_12) (N := 5) (ref := "PlateroomprinterModel") (index := 10) (ci := 12) (k := 1) hq_179 ho_179 ⟨rfl, by decide, ei_12, (List.mem_of_getElem? (i := 1959) (by decide +kernel)), .inl rfl⟩ (by decide +kernel) rfl
theorem t_179_4 : e_Sn 179 4 (o_getf (e_f1 13 1) 7) := s_getf (C := er_13) (T := et_13) (N := 13) (ref := "PlateroomprinterModel$Machine") (index := 195) (ci := 13) (k := 1) hq_179 ho_179 ⟨rfl, by decide, ei_13, (List.mem_of_getElem? (i := 1895) (by decide +kernel)), .inl rfl⟩ (by decide +kernel) rfl
theorem t_179_7 : e_Sn 179 7 (o_load e_okI 1 8) := s_iload (i := .iload_n 1) (len := 1) hq_179 (by decide +kernel) rfl (.inr ⟨1, rfl, rfl, rfl⟩)
theorem t_179_8 : e_Sn 179 8 (o_aldO 6 9) := s_aald (tc := 3) rfl hq_179 (by decide +kernel) rfl
theorem t_179_9 : e_Sn 179 9 (o_null 12 18) := s_ifnonnull (off := (9)) hq_179 (by decide +kernel) rfl rfl
theorem t_179_12 : e_Sn 179 12 (o_load e_okI 2 13) := s_iload (i := .iload_n 2) (len := 1) hq_179 (by decide +kernel) rfl (.inr ⟨2, rfl, rfl, rfl⟩)
theorem t_179_13 : e_Sn 179 13 (o_push (.inl 2147483649) 14) := s_iconst (n := (1)) hq_179 (by decide +kernel) rfl ⟨by decide +kernel, by decide +kernel⟩
theorem t_179_14 : e_Sn 179 14 (o_isub 15) := s_isub hq_179 (by decide +kernel) rfl
theorem t_179_15 : e_Sn 179 15 (o_goto 31) := s_goto (off := (16)) hq_179 (by decide +kernel) rfl
theorem t_179_31 : e_Sn 179 31 (o_ret e_okI) := s_iret hq_179 hr_179 (by decide +kernel)
noncomputable def e_tb_179 : e_X := (e_br 9 (e_br 4 (e_br 1 (e_lf 0 (o_load e_okR 0 1)) (e_lf 1 (o_getf (e_f1 12 1) 4))) (e_br 7 (e_lf 4 (o_getf (e_f1 13 1) 7)) (e_br 8 (e_lf 7 (o_load e_okI 1 8)) (e_lf 8 (o_aldO 6 9))))) (e_br 14 (e_br 12 (e_lf 9 (o_null 12 18)) (e_br 13 (e_lf 12 (o_load e_okI 2 13)) (e_lf 13 (o_push (.inl 2147483649) 14)))) (e_br 15 (e_lf 14 (o_isub 15)) (e_br 31 (e_lf 15 (o_goto 31)) (e_lf 31 (o_ret e_okI))))))
theorem e_tk_179 : e_Tb 179 e_tb_179 := (e_brT (e_brT (e_brT (e_lfT t_179_0) (e_lfT t_179_1)) (e_brT (e_lfT t_179_4) (e_brT (e_lfT t_179_7) (e_lfT t_179_8)))) (e_brT (e_brT (e_lfT t_179_9) (e_brT (e_lfT t_179_12) (e_lfT t_179_13))) (e_brT (e_lfT t_179_14) (e_brT (e_lfT t_179_15) (e_lfT t_179_31)))))
theorem hq_180 : (e_ml[180]?).map (·.2.1) = some prog_14_method_3_code := rfl
theorem ho_180 : (e_ml[180]?).map (·.1.cls) = some "PlateroomprinterModel" := rfl
theorem hr_180 : (e_ml[180]?).map (·.2.2.2) = some (some .int) := rfl
theorem t_180_0 : e_Sn 180 0 (o_load e_okI 0 1) := s_iload (i := .iload_n 0) (len := 1) hq_180 (by decide +kernel) rfl (.inr ⟨0, rfl, rfl, rfl⟩)
theorem t_180_1 : e_Sn 180 1 (o_ifeq 8 4) := s_ifeq (off := (7)) hq_180 (by decide +kernel) rfl rfl
theorem t_180_4 : e_Sn 180 4 (o_push (.inl 2147483649) 5) := s_iconst (n := (1)) hq_180 (by decide +kernel) rfl ⟨by decide +kernel, by decide +kernel⟩
theorem t_180_5 : e_Sn 180 5 (o_goto 9) := s_goto (off := (4)) hq_180 (by decide +kernel) rfl
theorem t_180_8 : e_Sn 180 8 (o_push (.inl 2147483648) 9) := s_iconst (n := (0)) hq_180 (by decide +kernel) rfl ⟨by decide +kernel, by decide +kernel⟩
theorem t_180_9 : e_Sn 180 9 (o_ret e_okI) := s_iret hq_180 hr_180 (by decide +kernel)
noncomputable def e_tb_180 : e_X := (e_br 5 (e_br 1 (e_lf 0 (o_load e_okI 0 1)) (e_br 4 (e_lf 1 (o_ifeq 8 4)) (e_lf 4 (o_push (.inl 2147483649) 5)))) (e_br 8 (e_lf 5 (o_goto 9)) (e_br 9 (e_lf 8 (o_push (.inl 2147483648) 9)) (e_lf 9 (o_ret e_okI)))))
theorem e_tk_180 : e_Tb 180 e_tb_180 := (e_brT (e_brT (e_lfT t_180_0) (e_brT (e_lfT t_180_1) (e_lfT t_180_4))) (e_brT (e_lfT t_180_5) (e_brT (e_lfT t_180_8) (e_lfT t_180_9))))
theorem hq_181 : (e_ml[181]?).map (·.2.1) = some prog_14_method_80_code := rfl
theorem ho_181 : (e_ml[181]?).map (·.1.cls) = some "PlateroomprinterModel" := rfl
theorem hr_181 : (e_ml[181]?).map (·.2.2.2) = some (some .int) := rfl
theorem t_181_0 : e_Sn 181 0 (o_load e_okR 0 1) := s_aload (i := .aload_n 0) (len := 1) hq_181 (by decide +kernel) rfl (.inr ⟨0, rfl, rfl, rfl⟩)
theorem t_181_1 : e_Sn 181 1 (o_load e_okI 1 2) := s_iload (i := .iload_n 1) (len := 1) hq_181 (by decide +kernel) rfl (.inr ⟨1, rfl, rfl, rfl⟩)
theorem t_181_2 : e_Sn 181 2 (o_i2l 3) := s_i2l hq_181 (by decide +kernel) rfl
theorem t_181_3 : e_Sn 181 3 (o_push (e_L 9223372036854775808) 4) := s_lconst (n := 0) hq_181 (by decide +kernel) rfl ⟨by decide +kernel, by decide +kernel⟩
theorem t_181_4 : e_Sn 181 4 (o_push (e_L 9223372036854775813) 7) := s_ldc2 (index := 256) (v := (5)) hq_181 ho_181 (List.mem_of_getElem? (i := 2964) (by decide +kernel)) (by decide +kernel) rfl ⟨by decide +kernel, by decide +kernel⟩
theorem t_181_7 : e_Sn 181 7 (o_callS 162 6 3 10) := s_callS (index := 136) hq_181 ho_181 hy_162 hp_162 hc_162 hi_162 hd_162 (List.mem_of_getElem? (i := 1987) (by decide +kernel)) hs_162 (by decide +kernel) rfl
theorem t_181_10 : e_Sn 181 10 (o_ifeq 13 17) := s_ifne (off := (7)) hq_181 (by decide +kernel) rfl rfl
theorem t_181_13 : e_Sn 181 13 (o_push (.inl 2147483649) 14) := s_iconst (n := (1)) hq_181 (by decide +kernel) rfl ⟨by decide +kernel, by decide +kernel⟩
theorem t_181_14 : e_Sn 181 14 (o_goto 18) := s_goto (off := (4)) hq_181 (by decide +kernel) rfl
theorem t_181_17 : e_Sn 181 17 (o_push (.inl 2147483648) 18) := s_iconst (n := (0)) hq_181 (by decide +kernel) rfl ⟨by decide +kernel, by decide +kernel⟩
theorem t_181_18 : e_Sn 181 18 (o_push (.inl 2147483649) 19) := s_iconst (n := (1)) hq_181 (by decide +kernel) rfl ⟨by decide +kernel, by decide +kernel⟩
theorem t_181_19 : e_Sn 181 19 (o_callV (e_s1 12 195 3) 3 22) := s_callV (ci := 12) (C := er_12) (T := et_12) (N := 5) (index := 148) hq_181 ho_181 hy_195 hp_195 hc_195 hi_195 hd_195 (List.mem_of_getElem? (i := 1992) (by decide +kernel)) hs_195 (List.mem_of_getElem? (i := 73) (by decide +kernel)) rfl (by decide +kernel) rfl
theorem t_181_22 : e_Sn 181 22 (o_ifeq 29 25) := s_ifeq (off := (7)) hq_181 (by decide +kernel) rfl rfl
theorem t_181_25 : e_Sn 181 25 (o_push (.inl 2147483648) 26) := s_iconst (n := (0)) hq_181 (by decide +kernel) rfl ⟨by decide +kernel, by decide +kernel⟩
theorem t_181_26 : e_Sn 181 26 (o_goto 34) := s_goto (off := (8)) hq_181 (by decide +kernel) rfl
theorem t_181_29 : e_Sn 181 29 (o_load e_okR 0 30) := s_aload (i := .aload_n 0) (len := 1) hq_181 (by decide +kernel) rfl (.inr ⟨0, rfl, rfl, rfl⟩)
theorem t_181_30 : e_Sn 181 30 (o_load e_okI 1 31) := s_iload (i := .iload_n 1) (len := 1) hq_181 (by decide +kernel) rfl (.inr ⟨1, rfl, rfl, rfl⟩)
theorem t_181_31 : e_Sn 181 31 (o_callV (e_s1 12 182 4) 2 34) := s_callV (ci := 12) (C := er_12) (T := et_12) (N := 5) (index := 367) hq_181 ho_181 hy_182 hp_182 hc_182 hi_182 hd_182 (List.mem_of_getElem? (i := 3130) (by decide +kernel)) hs_182 (List.mem_of_getElem? (i := 135) (by decide +kernel)) rfl (by decide +kernel) rfl
theorem t_181_34 : e_Sn 181 34 (o_ret e_okI) := s_iret hq_181 hr_181 (by decide +kernel)
noncomputable def e_tb_181 : e_X := (e_br 17 (e_br 4 (e_br 2 (e_br 1 (e_lf 0 (o_load e_okR 0 1)) (e_lf 1 (o_load e_okI 1 2))) (e_br 3 (e_lf 2 (o_i2l 3)) (e_lf 3 (o_push (e_L 9223372036854775808) 4)))) (e_br 10 (e_br 7 (e_lf 4 (o_push (e_L 9223372036854775813) 7)) (e_lf 7 (o_callS 162 6 3 10))) (e_br 13 (e_lf 10 (o_ifeq 13 17)) (e_br 14 (e_lf 13 (o_push (.inl 2147483649) 14)) (e_lf 14 (o_goto 18)))))) (e_br 26 (e_br 19 (e_br 18 (e_lf 17 (o_push (.inl 2147483648) 18)) (e_lf 18 (o_push (.inl 2147483649) 19))) (e_br 22 (e_lf 19 (o_callV (e_s1 12 195 3) 3 22)) (e_br 25 (e_lf 22 (o_ifeq 29 25)) (e_lf 25 (o_push (.inl 2147483648) 26))))) (e_br 30 (e_br 29 (e_lf 26 (o_goto 34)) (e_lf 29 (o_load e_okR 0 30))) (e_br 31 (e_lf 30 (o_load e_okI 1 31)) (e_br 34 (e_lf 31 (o_callV (e_s1 12 182 4) 2 34)) (e_lf 34 (o_ret e_okI)))))))
theorem e_tk_181 : e_Tb 181 e_tb_181 := (e_brT (e_brT (e_brT (e_brT (e_lfT t_181_0) (e_lfT t_181_1)) (e_brT (e_lfT t_181_2) (e_lfT t_181_3))) (e_brT (e_brT (e_lfT t_181_4) (e_lfT t_181_7)) (e_brT (e_lfT t_181_10) (e_brT (e_lfT t_181_13) (e_lfT t_181_14))))) (e_brT (e_brT (e_brT (e_lfT t_181_17) (e_lfT t_181_18)) (e_brT (e_lfT t_181_19) (e_brT (e_lfT t_181_22) (e_lfT t_181_25)))) (e_brT (e_brT (e_lfT t_181_26) (e_lfT t_181_29)) (e_brT (e_lfT t_181_30) (e_brT (e_lfT t_181_31) (e_lfT t_181_34))))))
theorem hq_182 : (e_ml[182]?).map (·.2.1) = some prog_14_method_79_code := rfl
theorem ho_182 : (e_ml[182]?).map (·.1.cls) = some "PlateroomprinterModel" := rfl
theorem hr_182 : (e_ml[182]?).map (·.2.2.2) = some (some .int) := rfl
theorem t_182_0 : e_Sn 182 0 (o_load e_okI 1 1) := s_iload (i := .iload_n 1) (len := 1) hq_182 (by decide +kernel) rfl (.inr ⟨1, rfl, rfl, rfl⟩)
theorem t_182_1 : e_Sn 182 1 (o_ifeq 4 12) := s_ifne (off := (11)) hq_182 (by decide +kernel) rfl rfl
theorem t_182_4 : e_Sn 182 4 (o_load e_okR 0 5) := s_aload (i := .aload_n 0) (len := 1) hq_182 (by decide +kernel) rfl (.inr ⟨0, rfl, rfl, rfl⟩)
theorem t_182_5 : e_Sn 182 5 (o_getf (e_f1 12 1) 8) := s_getf (C := er_12) (T := et_12) (N := 5) (ref := "PlateroomprinterModel") (index := 10) (ci := 12) (k := 1) hq_182 ho_182 ⟨rfl, by decide, ei_12, (List.mem_of_getElem? (i := 1959) (by decide +kernel)), .inl rfl⟩ (by decide +kernel) rfl
theorem t_182_8 : e_Sn 182 8 (o_getf (e_f1 13 8) 11) := s_getf (C := er_13) (T := et_13) (N := 13) (ref := "PlateroomprinterModel$Machine") (index := 181) (ci := 13) (k := 8) hq_182 ho_182 ⟨rfl, by decide, ei_13, (List.mem_of_getElem? (i := 1915) (by decide +kernel)), .inl rfl⟩ (by decide +kernel) rfl
theorem t_182_11 : e_Sn 182 11 (o_ret e_okI) := s_iret hq_182 hr_182 (by decide +kernel)
theorem t_182_12 : e_Sn 182 12 (o_load e_okR 0 13) := s_aload (i := .aload_n 0) (len := 1) hq_182 (by decide +kernel) rfl (.inr ⟨0, rfl, rfl, rfl⟩)
theorem t_182_13 : e_Sn 182 13 (o_getf (e_f1 12 1) 16) := s_getf (C := er_12) (T := et_12) (N := 5) (ref := "PlateroomprinterModel") (index := 10) (ci := 12) (k := 1) hq_182 ho_182 ⟨rfl, by decide, ei_12, (List.mem_of_getElem? (i := 1959) (by decide +kernel)), .inl rfl⟩ (by decide +kernel) rfl
theorem t_182_16 : e_Sn 182 16 (o_getf (e_f1 13 7) 19) := s_getf (C := er_13) (T := et_13) (N := 13) (ref := "PlateroomprinterModel$Machine") (index := 364) (ci := 13) (k := 7) hq_182 ho_182 ⟨rfl, by decide, ei_13, (List.mem_of_getElem? (i := 1913) (by decide +kernel)), .inl rfl⟩ (by decide +kernel) rfl
theorem t_182_19 : e_Sn 182 19 (o_null 22 24) := s_ifnonnull (off := (5)) hq_182 (by decide +kernel) rfl rfl
theorem t_182_22 : e_Sn 182 22 (o_push (.inl 2147483648) 23) := s_iconst (n := (0)) hq_182 (by decide +kernel) rfl ⟨by decide +kernel, by decide +kernel⟩
theorem t_182_23 : e_Sn 182 23 (o_ret e_okI) := s_iret hq_182 hr_182 (by decide +kernel)
noncomputable def e_tb_182 : e_X := (e_br 12 (e_br 5 (e_br 1 (e_lf 0 (o_load e_okI 1 1)) (e_br 4 (e_lf 1 (o_ifeq 4 12)) (e_lf 4 (o_load e_okR 0 5)))) (e_br 8 (e_lf 5 (o_getf (e_f1 12 1) 8)) (e_br 11 (e_lf 8 (o_getf (e_f1 13 8) 11)) (e_lf 11 (o_ret e_okI))))) (e_br 19 (e_br 13 (e_lf 12 (o_load e_okR 0 13)) (e_br 16 (e_lf 13 (o_getf (e_f1 12 1) 16)) (e_lf 16 (o_getf (e_f1 13 7) 19)))) (e_br 22 (e_lf 19 (o_null 22 24)) (e_br 23 (e_lf 22 (o_push (.inl 2147483648) 23)) (e_lf 23 (o_ret e_okI))))))
theorem e_tk_182 : e_Tb 182 e_tb_182 := (e_brT (e_brT (e_brT (e_lfT t_182_0) (e_brT (e_lfT t_182_1) (e_lfT t_182_4))) (e_brT (e_lfT t_182_5) (e_brT (e_lfT t_182_8) (e_lfT t_182_11)))) (e_brT (e_brT (e_lfT t_182_12) (e_brT (e_lfT t_182_13) (e_lfT t_182_16))) (e_brT (e_lfT t_182_19) (e_brT (e_lfT t_182_22) (e_lfT t_182_23)))))
theorem hq_183 : (e_ml[183]?).map (·.2.1) = some prog_14_method_15_code := rfl
theorem ho_183 : (e_ml[183]?).map (·.1.cls) = some "PlateroomprinterModel" := rfl
theorem hr_183 : (e_ml[183]?).map (·.2.2.2) = some (some .int) := rfl
theorem t_183_0 : e_Sn 183 0 (o_load e_okR 0 1) := s_aload (i := .aload_n 0) (len := 1) hq_183 (by decide +kernel) rfl (.inr ⟨0, rfl, rfl, rfl⟩)
theorem t_183_1 : e_Sn 183 1 (o_push (.inl 2147483649) 2) := s_iconst (n := (1)) hq_183 (by decide +kernel) rfl ⟨by decide +kernel, by decide +kernel⟩
theorem t_183_2 : e_Sn 183 2 (o_ald e_fcs 3) := s_iald hq_183 (by decide +kernel) rfl
theorem t_183_3 : e_Sn 183 3 (o_load e_okI 3 4) := s_iload (i := .iload_n 3) (len := 1) hq_183 (by decide +kernel) rfl (.inr ⟨3, rfl, rfl, rfl⟩)
theorem t_183_4 : e_Sn 183 4 (o_cgt 11 7) := s_cgt (off := (7)) hq_183 (by decide +kernel) rfl rfl
theorem t_183_7 : e_Sn 183 7 (o_push (.inl 2147483649) 8) := s_iconst (n := (1)) hq_183 (by decide +kernel) rfl ⟨by decide +kernel, by decide +kernel⟩
theorem t_183_8 : e_Sn 183 8 (o_goto 12) := s_goto (off := (4)) hq_183 (by decide +kernel) rfl
theorem t_183_11 : e_Sn 183 11 (o_push (.inl 2147483648) 12) := s_iconst (n := (0)) hq_183 (by decide +kernel) rfl ⟨by decide +kernel, by decide +kernel⟩
theorem t_183_12 : e_Sn 183 12 (o_load e_okR 1 13) := s_aload (i := .aload_n 1) (len := 1) hq_183 (by decide +kernel) rfl (.inr ⟨1, rfl, rfl, rfl⟩)
theorem t_183_13 : e_Sn 183 13 (o_push (.inl 2147483649) 14) := s_iconst (n := (1)) hq_183 (by decide +kernel) rfl ⟨by decide +kernel, by decide +kernel⟩
theorem t_183_14 : e_Sn 183 14 (o_ald e_fcs 15) := s_iald hq_183 (by decide +kernel) rfl
theorem t_183_15 : e_Sn 183 15 (o_load e_okI 3 16) := s_iload (i := .iload_n 3) (len := 1) hq_183 (by decide +kernel) rfl (.inr ⟨3, rfl, rfl, rfl⟩)
theorem t_183_16 : e_Sn 183 16 (o_cgt 23 19) := s_cgt (off := (7)) hq_183 (by decide +kernel) rfl rfl
theorem t_183_19 : e_Sn 183 19 (o_push (.inl 2147483649) 20) := s_iconst (n := (1)) hq_183 (by decide +kernel) rfl ⟨by decide +kernel, by decide +kernel⟩
theorem t_183_20 : e_Sn 183 20 (o_goto 24) := s_goto (off := (4)) hq_183 (by decide +kernel) rfl
theorem t_183_23 : e_Sn 183 23 (o_push (.inl 2147483648) 24) := s_iconst (n := (0)) hq_183 (by decide +kernel) rfl ⟨by decide +kernel, by decide +kernel⟩
theorem t_183_24 : e_Sn 183 24 (o_ceq 27 29) := s_cne (off := (5)) hq_183 (by decide +kernel) rfl rfl
theorem t_183_27 : e_Sn 183 27 (o_push (.inl 2147483648) 28) := s_iconst (n := (0)) hq_183 (by decide +kernel) rfl ⟨by decide +kernel, by decide +kernel⟩
theorem t_183_28 : e_Sn 183 28 (o_ret e_okI) := s_iret hq_183 hr_183 (by decide +kernel)
theorem t_183_29 : e_Sn 183 29 (o_load e_okI 2 30) := s_iload (i := .iload_n 2) (len := 1) hq_183 (by decide +kernel) rfl (.inr ⟨2, rfl, rfl, rfl⟩)
theorem t_183_30 : e_Sn 183 30 (o_load e_okR 0 31) := s_aload (i := .aload_n 0) (len := 1) hq_183 (by decide +kernel) rfl (.inr ⟨0, rfl, rfl, rfl⟩)
theorem t_183_31 : e_Sn 183 31 (o_push (.inl 2147483648) 32) := s_iconst (n := (0)) hq_183 (by decide +kernel) rfl ⟨by decide +kernel, by decide +kernel⟩
theorem t_183_32 : e_Sn 183 32 (o_ald e_fcs 33) := s_iald hq_183 (by decide +kernel) rfl
theorem t_183_33 : e_Sn 183 33 (o_isub 34) := s_isub hq_183 (by decide +kernel) rfl
theorem t_183_34 : e_Sn 183 34 (o_i2l 35) := s_i2l hq_183 (by decide +kernel) rfl
theorem t_183_35 : e_Sn 183 35 (o_load e_okR 1 36) := s_aload (i := .aload_n 1) (len := 1) hq_183 (by decide +kernel) rfl (.inr ⟨1, rfl, rfl, rfl⟩)
theorem t_183_36 : e_Sn 183 36 (o_push (.inl 2147483649) 37) := s_iconst (n := (1)) hq_183 (by decide +kernel) rfl ⟨by decide +kernel, by decide +kernel⟩
theorem t_183_37 : e_Sn 183 37 (o_ald e_fcs 38) := s_iald hq_183 (by decide +kernel) rfl
theorem t_183_38 : e_Sn 183 38 (o_load e_okR 0 39) := s_aload (i := .aload_n 0) (len := 1) hq_183 (by decide +kernel) rfl (.inr ⟨0, rfl, rfl, rfl⟩)
theorem t_183_39 : e_Sn 183 39 (o_push (.inl 2147483649) 40) := s_iconst (n := (1)) hq_183 (by decide +kernel) rfl ⟨by decide +kernel, by decide +kernel⟩
theorem t_183_40 : e_Sn 183 40 (o_ald e_fcs 41) := s_iald hq_183 (by decide +kernel) rfl
theorem t_183_41 : e_Sn 183 41 (o_isub 42) := s_isub hq_183 (by decide +kernel) rfl
theorem t_183_42 : e_Sn 183 42 (o_i2l 43) := s_i2l hq_183 (by decide +kernel) rfl
theorem t_183_43 : e_Sn 183 43 (o_lmul 44) := s_lmul hq_183 (by decide +kernel) rfl
theorem t_183_44 : e_Sn 183 44 (o_load e_okI 3 45) := s_iload (i := .iload_n 3) (len := 1) hq_183 (by decide +kernel) rfl (.inr ⟨3, rfl, rfl, rfl⟩)
theorem t_183_45 : e_Sn 183 45 (o_load e_okR 0 46) := s_aload (i := .aload_n 0) (len := 1) hq_183 (by decide +kernel) rfl (.inr ⟨0, rfl, rfl, rfl⟩)
theorem t_183_46 : e_Sn 183 46 (o_push (.inl 2147483649) 47) := s_iconst (n := (1)) hq_183 (by decide +kernel) rfl ⟨by decide +kernel, by decide +kernel⟩
theorem t_183_47 : e_Sn 183 47 (o_ald e_fcs 48) := s_iald hq_183 (by decide +kernel) rfl
theorem t_183_48 : e_Sn 183 48 (o_isub 49) := s_isub hq_183 (by decide +kernel) rfl
theorem t_183_49 : e_Sn 183 49 (o_i2l 50) := s_i2l hq_183 (by decide +kernel) rfl
theorem t_183_50 : e_Sn 183 50 (o_load e_okR 1 51) := s_aload (i := .aload_n 1) (len := 1) hq_183 (by decide +kernel) rfl (.inr ⟨1, rfl, rfl, rfl⟩)
theorem t_183_51 : e_Sn 183 51 (o_push (.inl 2147483648) 52) := s_iconst (n := (0)) hq_183 (by decide +kernel) rfl ⟨by decide +kernel, by decide +kernel⟩
theorem t_183_52 : e_Sn 183 52 (o_ald e_fcs 53) := s_iald hq_183 (by decide +kernel) rfl
theorem t_183_53 : e_Sn 183 53 (o_load e_okR 0 54) := s_aload (i := .aload_n 0) (len := 1) hq_183 (by decide +kernel) rfl (.inr ⟨0, rfl, rfl, rfl⟩)
theorem t_183_54 : e_Sn 183 54 (o_push (.inl 2147483648) 55) := s_iconst (n := (0)) hq_183 (by decide +kernel) rfl ⟨by decide +kernel, by decide +kernel⟩
theorem t_183_55 : e_Sn 183 55 (o_ald e_fcs 56) := s_iald hq_183 (by decide +kernel) rfl
theorem t_183_56 : e_Sn 183 56 (o_isub 57) := s_isub hq_183 (by decide +kernel) rfl
theorem t_183_57 : e_Sn 183 57 (o_i2l 58) := s_i2l hq_183 (by decide +kernel) rfl
theorem t_183_58 : e_Sn 183 58 (o_lmul 59) := s_lmul hq_183 (by decide +kernel) rfl
theorem t_183_59 : e_Sn 183 59 (o_lsub 60) := s_lsub hq_183 (by decide +kernel) rfl
theorem t_183_60 : e_Sn 183 60 (o_storeL 4 62) := s_lstore (i := .lstore 4) (len := 2) hq_183 (by decide +kernel) rfl (.inl ⟨rfl, rfl⟩)
theorem t_183_62 : e_Sn 183 62 (o_load e_okR 1 63) := s_aload (i := .aload_n 1) (len := 1) hq_183 (by decide +kernel) rfl (.inr ⟨1, rfl, rfl, rfl⟩)
theorem t_183_63 : e_Sn 183 63 (o_push (.inl 2147483649) 64) := s_iconst (n := (1)) hq_183 (by decide +kernel) rfl ⟨by decide +kernel, by decide +kernel⟩
theorem t_183_64 : e_Sn 183 64 (o_ald e_fcs 65) := s_iald hq_183 (by decide +kernel) rfl
theorem t_183_65 : e_Sn 183 65 (o_load e_okR 0 66) := s_aload (i := .aload_n 0) (len := 1) hq_183 (by decide +kernel) rfl (.inr ⟨0, rfl, rfl, rfl⟩)
theorem t_183_66 : e_Sn 183 66 (o_push (.inl 2147483649) 67) := s_iconst (n := (1)) hq_183 (by decide +kernel) rfl ⟨by decide +kernel, by decide +kernel⟩
theorem t_183_67 : e_Sn 183 67 (o_ald e_fcs 68) := s_iald hq_183 (by decide +kernel) rfl
theorem t_183_68 : e_Sn 183 68 (o_cgt 71 86) := s_cle (off := (18)) hq_183 (by decide +kernel) rfl rfl
theorem t_183_71 : e_Sn 183 71 (o_load e_okL 4 73) := s_lload (i := .lload 4) (len := 2) hq_183 (by decide +kernel) rfl (.inl ⟨rfl, rfl⟩)
theorem t_183_73 : e_Sn 183 73 (o_push (e_L 9223372036854775808) 74) := s_lconst (n := 0) hq_183 (by decide +kernel) rfl ⟨by decide +kernel, by decide +kernel⟩
theorem t_183_74 : e_Sn 183 74 (o_lcmp 75) := s_lcmp hq_183 (by decide +kernel) rfl
theorem t_183_75 : e_Sn 183 75 (o_iflt 82 78) := s_iflt (off := (7)) hq_183 (by decide +kernel) rfl rfl
theorem t_183_82 : e_Sn 183 82 (o_push (.inl 2147483648) 83) := s_iconst (n := (0)) hq_183 (by decide +kernel) rfl ⟨by decide +kernel, by decide +kernel⟩
theorem t_183_83 : e_Sn 183 83 (o_goto 98) := s_goto (off := (15)) hq_183 (by decide +kernel) rfl
theorem t_183_86 : e_Sn 183 86 (o_load e_okL 4 88) := s_lload (i := .lload 4) (len := 2) hq_183 (by decide +kernel) rfl (.inl ⟨rfl, rfl⟩)
theorem t_183_88 : e_Sn 183 88 (o_push (e_L 9223372036854775808) 89) := s_lconst (n := 0) hq_183 (by decide +kernel) rfl ⟨by decide +kernel, by decide +kernel⟩
theorem t_183_89 : e_Sn 183 89 (o_lcmp 90) := s_lcmp hq_183 (by decide +kernel) rfl
theorem t_183_90 : e_Sn 183 90 (o_ifgt 97 93) := s_ifgt (off := (7)) hq_183 (by decide +kernel) rfl rfl
theorem t_183_93 : e_Sn 183 93 (o_push (.inl 2147483649) 94) := s_iconst (n := (1)) hq_183 (by decide +kernel) rfl ⟨by decide +kernel, by decide +kernel⟩
theorem t_183_94 : e_Sn 183 94 (o_goto 98) := s_goto (off := (4)) hq_183 (by decide +kernel) rfl
theorem t_183_98 : e_Sn 183 98 (o_store e_okI 6 100) := s_istore (i := .istore 6) (len := 2) hq_183 (by decide +kernel) rfl (.inl ⟨rfl, rfl⟩)
theorem t_183_100 : e_Sn 183 100 (o_load e_okI 6 102) := s_iload (i := .iload 6) (len := 2) hq_183 (by decide +kernel) rfl (.inl ⟨rfl, rfl⟩)
theorem t_183_102 : e_Sn 183 102 (o_ifeq 122 105) := s_ifeq (off := (20)) hq_183 (by decide +kernel) rfl rfl
theorem t_183_105 : e_Sn 183 105 (o_load e_okR 0 106) := s_aload (i := .aload_n 0) (len := 1) hq_183 (by decide +kernel) rfl (.inr ⟨0, rfl, rfl, rfl⟩)
theorem t_183_106 : e_Sn 183 106 (o_push (.inl 2147483649) 107) := s_iconst (n := (1)) hq_183 (by decide +kernel) rfl ⟨by decide +kernel, by decide +kernel⟩
theorem t_183_107 : e_Sn 183 107 (o_ald e_fcs 108) := s_iald hq_183 (by decide +kernel) rfl
theorem t_183_108 : e_Sn 183 108 (o_load e_okR 1 109) := s_aload (i := .aload_n 1) (len := 1) hq_183 (by decide +kernel) rfl (.inr ⟨1, rfl, rfl, rfl⟩)
theorem t_183_109 : e_Sn 183 109 (o_push (.inl 2147483649) 110) := s_iconst (n := (1)) hq_183 (by decide +kernel) rfl ⟨by decide +kernel, by decide +kernel⟩
theorem t_183_110 : e_Sn 183 110 (o_ald e_fcs 111) := s_iald hq_183 (by decide +kernel) rfl
theorem t_183_111 : e_Sn 183 111 (o_clt 114 118) := s_cge (off := (7)) hq_183 (by decide +kernel) rfl rfl
theorem t_183_118 : e_Sn 183 118 (o_push (.inl 2147483647) 119) := s_iconst (n := (-1)) hq_183 (by decide +kernel) rfl ⟨by decide +kernel, by decide +kernel⟩
theorem t_183_119 : e_Sn 183 119 (o_goto 123) := s_goto (off := (4)) hq_183 (by decide +kernel) rfl
theorem t_183_122 : e_Sn 183 122 (o_push (.inl 2147483648) 123) := s_iconst (n := (0)) hq_183 (by decide +kernel) rfl ⟨by decide +kernel, by decide +kernel⟩
theorem t_183_123 : e_Sn 183 123 (o_ret e_okI) := s_iret hq_183 hr_183 (by decide +kernel)
noncomputable def e_tb_183 : e_X := (e_br 52 (e_br 31 (e_br 14 (e_br 7 (e_br 2 (e_br 1 (e_lf 0 (o_load e_okR 0 1)) (e_lf 1 (o_push (.inl 2147483649) 2))) (e_br 3 (e_lf 2 (o_ald e_fcs 3)) (e_br 4 (e_lf 3 (o_load e_okI 3 4)) (e_lf 4 (o_cgt 11 7))))) (e_br 11 (e_br 8 (e_lf 7 (o_push (.inl 2147483649) 8)) (e_lf 8 (o_goto 12))) (e_br 12 (e_lf 11 (o_push (.inl 2147483648) 12)) (e_br 13 (e_lf 12 (o_load e_okR 1 13)) (e_lf 13 (o_push (.inl 2147483649) 14)))))) (e_br 23 (e_br 16 (e_br 15 (e_lf 14 (o_ald e_fcs 15)) (e_lf 15 (o_load e_okI 3 16))) (e_br 19 (e_lf 16 (o_cgt 23 19)) (e_br 20 (e_lf 19 (o_push (.inl 2147483649) 20)) (e_lf 20 (o_goto 24))))) (e_br 28 (e_br 24 (e_lf 23 (o_push (.inl 2147483648) 24)) (e_br 27 (e_lf 24 (o_ceq 27 29)) (e_lf 27 (o_push (.inl 2147483648) 28)))) (e_br 29 (e_lf 28 (o_ret e_okI)) (e_br 30 (e_lf 29 (o_load e_okI 2 30)) (e_lf 30 (o_load e_okR 0 31))))))) (e_br 41 (e_br 36 (e_br 33 (e_br 32 (e_lf 31 (o_push (.inl 2147483648) 32)) (e_lf 32 (o_ald e_fcs 33))) (e_br 34 (e_lf 33 (o_isub 34)) (e_br 35 (e_lf 34 (o_i2l 35)) (e_lf 35 (o_load e_okR 1 36))))) (e_br 38 (e_br 37 (e_lf 36 (o_push (.inl 2147483649) 37)) (e_lf 37 (o_ald e_fcs 38))) (e_br 39 (e_lf 38 (o_load e_okR 0 39)) (e_br 40 (e_lf 39 (o_push (.inl 2147483649) 40)) (e_lf 40 (o_ald e_fcs 41)))))) (e_br 46 (e_br 43 (e_br 42 (e_lf 41 (o_isub 42)) (e_lf 42 (o_i2l 43))) (e_br 44 (e_lf 43 (o_lmul 44)) (e_br 45 (e_lf 44 (o_load e_okI 3 45)) (e_lf 45 (o_load e_okR 0 46))))) (e_br 49 (e_br 47 (e_lf 46 (o_push (.inl 2147483649) 47)) (e_br 48 (e_lf 47 (o_ald e_fcs 48)) (e_lf 48 (o_isub 49)))) (e_br 50 (e_lf 49 (o_i2l 50)) (e_br 51 (e_lf 50 (o_load e_okR 1 51)) (e_lf 51 (o_push (.inl 2147483648) 52)))))))) (e_br 83 (e_br 63 (e_br 57 (e_br 54 (e_br 53 (e_lf 52 (o_ald e_fcs 53)) (e_lf 53 (o_load e_okR 0 54))) (e_br 55 (e_lf 54 (o_push (.inl 2147483648) 55)) (e_br 56 (e_lf 55 (o_ald e_fcs 56)) (e_lf 56 (o_isub 57))))) (e_br 59 (e_br 58 (e_lf 57 (o_i2l 58)) (e_lf 58 (o_lmul 59))) (e_br 60 (e_lf 59 (o_lsub 60)) (e_br 62 (e_lf 60 (o_storeL 4 62)) (e_lf 62 (o_load e_okR 1 63)))))) (e_br 68 (e_br 65 (e_br 64 (e_lf 63 (o_push (.inl 2147483649) 64)) (e_lf 64 (o_ald e_fcs 65))) (e_br 66 (e_lf 65 (o_load e_okR 0 66)) (e_br 67 (e_lf 66 (o_push (.inl 2147483649) 67)) (e_lf 67 (o_ald e_fcs 68))))) (e_br 74 (e_br 71 (e_lf 68 (o_cgt 71 86)) (e_br 73 (e_lf 71 (o_load e_okL 4 73)) (e_lf 73 (o_push (e_L 9223372036854775808) 74)))) (e_br 75 (e_lf 74 (o_lcmp 75)) (e_br 82 (e_lf 75 (o_iflt 82 78)) (e_lf 82 (o_push (.inl 2147483648) 83))))))) (e_br 105 (e_br 93 (e_br 88 (e_br 86 (e_lf 83 (o_goto 98)) (e_lf 86 (o_load e_okL 4 88))) (e_br 89 (e_lf 88 (o_push (e_L 9223372036854775808) 89)) (e_br 90 (e_lf 89 (o_lcmp 90)) (e_lf 90 (o_ifgt 97 93))))) (e_br 98 (e_br 94 (e_lf 93 (o_push (.inl 2147483649) 94)) (e_lf 94 (o_goto 98))) (e_br 100 (e_lf 98 (o_store e_okI 6 100)) (e_br 102 (e_lf 100 (o_load e_okI 6 102)) (e_lf 102 (o_ifeq 122 105)))))) (e_br 110 (e_br 107 (e_br 106 (e_lf 105 (o_load e_okR 0 106)) (e_lf 106 (o_push (.inl 2147483649) 107))) (e_br 108 (e_lf 107 (o_ald e_fcs 108)) (e_br 109 (e_lf 108 (o_load e_okR 1 109)) (e_lf 109 (o_push (.inl 2147483649) 110))))) (e_br 119 (e_br 111 (e_lf 110 (o_ald e_fcs 111)) (e_br 118 (e_lf 111 (o_clt 114 118)) (e_lf 118 (o_push (.inl 2147483647) 119)))) (e_br 122 (e_lf 119 (o_goto 123)) (e_br 123 (e_lf 122 (o_push (.inl 2147483648) 123)) (e_lf 123 (o_ret e_okI)))))))))
theorem e_tk_183 : e_Tb 183 e_tb_183 := (e_brT (e_brT (e_brT (e_brT (e_brT (e_brT (e_lfT t_183_0) (e_lfT t_183_1)) (e_brT (e_lfT t_183_2) (e_brT (e_lfT t_183_3) (e_lfT t_183_4)))) (e_brT (e_brT (e_lfT t_183_7) (e_lfT t_183_8)) (e_brT (e_lfT t_183_11) (e_brT (e_lfT t_183_12) (e_lfT t_183_13))))) (e_brT (e_brT (e_brT (e_lfT t_183_14) (e_lfT t_183_15)) (e_brT (e_lfT t_183_16) (e_brT (e_lfT t_183_19) (e_lfT t_183_20)))) (e_brT (e_brT (e_lfT t_183_23) (e_brT (e_lfT t_183_24) (e_lfT t_183_27))) (e_brT (e_lfT t_183_28) (e_brT (e_lfT t_183_29) (e_lfT t_183_30)))))) (e_brT (e_brT (e_brT (e_brT (e_lfT t_183_31) (e_lfT t_183_32)) (e_brT (e_lfT t_183_33) (e_brT (e_lfT t_183_34) (e_lfT t_183_35)))) (e_brT (e_brT (e_lfT t_183_36) (e_lfT t_183_37)) (e_brT (e_lfT t_183_38) (e_brT (e_lfT t_183_39) (e_lfT t_183_40))))) (e_brT (e_brT (e_brT (e_lfT t_183_41) (e_lfT t_183_42)) (e_brT (e_lfT t_183_43) (e_brT (e_lfT t_183_44) (e_lfT t_183_45)))) (e_brT (e_brT (e_lfT t_183_46) (e_brT (e_lfT t_183_47) (e_lfT t_183_48))) (e_brT (e_lfT t_183_49) (e_brT (e_lfT t_183_50) (e_lfT t_183_51))))))) (e_brT (e_brT (e_brT (e_brT (e_brT (e_lfT t_183_52) (e_lfT t_183_53)) (e_brT (e_lfT t_183_54) (e_brT (e_lfT t_183_55) (e_lfT t_183_56)))) (e_brT (e_brT (e_lfT t_183_57) (e_lfT t_183_58)) (e_brT (e_lfT t_183_59) (e_brT (e_lfT t_183_60) (e_lfT t_183_62))))) (e_brT (e_brT (e_brT (e_lfT t_183_63) (e_lfT t_183_64)) (e_brT (e_lfT t_183_65) (e_brT (e_lfT t_183_66) (e_lfT t_183_67)))) (e_brT (e_brT (e_lfT t_183_68) (e_brT (e_lfT t_183_71) (e_lfT t_183_73))) (e_brT (e_lfT t_183_74) (e_brT (e_lfT t_183_75) (e_lfT t_183_82)))))) (e_brT (e_brT (e_brT (e_brT (e_lfT t_183_83) (e_lfT t_183_86)) (e_brT (e_lfT t_183_88) (e_brT (e_lfT t_183_89) (e_lfT t_183_90)))) (e_brT (e_brT (e_lfT t_183_93) (e_lfT t_183_94)) (e_brT (e_lfT t_183_98) (e_brT (e_lfT t_183_100) (e_lfT t_183_102))))) (e_brT (e_brT (e_brT (e_lfT t_183_105) (e_lfT t_183_106)) (e_brT (e_lfT t_183_107) (e_brT (e_lfT t_183_108) (e_lfT t_183_109)))) (e_brT (e_brT (e_lfT t_183_110) (e_brT (e_lfT t_183_111) (e_lfT t_183_118))) (e_brT (e_lfT t_183_119) (e_brT (e_lfT t_183_122) (e_lfT t_183_123))))))))
theorem hq_184 : (e_ml[184]?).map (·.2.1) = some prog_14_method_48_code := rfl
theorem ho_184 : (e_ml[184]?).map (·.1.cls) = some "PlateroomprinterModel" := rfl
theorem hr_184 : (e_ml[184]?).map (·.2.2.2) = some (some (.object "java/util/ArrayList")) := rfl
theorem t_184_0 : e_Sn 184 0 (o_load e_okR 0 1) := s_aload (i := .aload_n 0) (len := 1) hq_184 (by decide +kernel) rfl (.inr ⟨0, rfl, rfl, rfl⟩)
theorem t_184_1 : e_Sn 184 1 (o_getf (e_f1 12 1) 4) := s_getf (C := er_12) (T := et_12) (N := 5) (ref := "PlateroomprinterModel") (index := 10) (ci := 12) (k := 1) hq_184 ho_184 ⟨rfl, by decide, ei_12, (List.mem_of_getElem? (i := 1959) (by decide +kernel)), .inl rfl⟩ (by decide +kernel) rfl
theorem t_184_4 : e_Sn 184 4 (o_getf (e_f1 13 2) 7) := s_getf (C := er_13) (T := et_13) (N := 13) (ref := "PlateroomprinterModel$Machine") (index := 218) (ci := 13) (k := 2) hq_184 ho_184 ⟨rfl, by decide, ei_13, (List.mem_of_getElem? (i := 1898) (by decide +kernel)), .inl rfl⟩ (by decide +kernel) rfl
theorem t_184_7 : e_Sn 184 7 (o_getf (e_f1 17 1) 10) := s_getf (C := er_17) (T := et_17) (N := 6) (ref := "PlateroomprinterModel$State") (index := 231) (ci := 17) (k := 1) hq_184 ho_184 ⟨rfl, by decide, ei_17, (List.mem_of_getElem? (i := 1793) (by decide +kernel)), .inl rfl⟩ (by decide +kernel) rfl
theorem t_184_10 : e_Sn 184 10 (o_ret e_okR) := s_aret (.inl ⟨_, rfl⟩) hq_184 hr_184 (by decide +kernel)
noncomputable def e_tb_184 : e_X := (e_br 4 (e_br 1 (e_lf 0 (o_load e_okR 0 1)) (e_lf 1 (o_getf (e_f1 12 1) 4))) (e_br 7 (e_lf 4 (o_getf (e_f1 13 2) 7)) (e_br 10 (e_lf 7 (o_getf (e_f1 17 1) 10)) (e_lf 10 (o_ret e_okR)))))
theorem e_tk_184 : e_Tb 184 e_tb_184 := (e_brT (e_brT (e_lfT t_184_0) (e_lfT t_184_1)) (e_brT (e_lfT t_184_4) (e_brT (e_lfT t_184_7) (e_lfT t_184_10))))
theorem hq_185 : (e_ml[185]?).map (·.2.1) = some prog_14_method_53_code := rfl
theorem ho_185 : (e_ml[185]?).map (·.1.cls) = some "PlateroomprinterModel" := rfl
theorem hr_185 : (e_ml[185]?).map (·.2.2.2) = some (some .int) := rfl
theorem t_185_0 : e_Sn 185 0 (o_load e_okR 0 1) := s_aload (i := .aload_n 0) (len := 1) hq_185 (by decide +kernel) rfl (.inr ⟨0, rfl, rfl, rfl⟩)
theorem t_185_1 : e_Sn 185 1 (o_load e_okR 0 2) := s_aload (i := .aload_n 0) (len := 1) hq_185 (by decide +kernel) rfl (.inr ⟨0, rfl, rfl, rfl⟩)
theorem t_185_2 : e_Sn 185 2 (o_load e_okI 1 3) := s_iload (i := .iload_n 1) (len := 1) hq_185 (by decide +kernel) rfl (.inr ⟨1, rfl, rfl, rfl⟩)
theorem t_185_3 : e_Sn 185 3 (o_load e_okI 2 4) := s_iload (i := .iload_n 2) (len := 1) hq_185 (by decide +kernel) rfl (.inr ⟨2, rfl, rfl, rfl⟩)
theorem t_185_4 : e_Sn 185 4 (o_callV (e_s1 12 165 3) 3 7) := s_callV (ci := 12) (C := er_12) (T := et_12) (N := 5) (index := 275) hq_185 ho_185 hy_165 hp_165 hc_165 hi_165 hd_165 (List.mem_of_getElem? (i := 2989) (by decide +kernel)) hs_165 (List.mem_of_getElem? (i := 129) (by decide +kernel)) rfl (by decide +kernel) rfl
theorem t_185_7 : e_Sn 185 7 (o_push (.inl 2147483649) 8) := s_iconst (n := (1)) hq_185 (by decide +kernel) rfl ⟨by decide +kernel, by decide +kernel⟩
theorem t_185_8 : e_Sn 185 8 (o_callV (e_s1 12 195 3) 3 11) := s_callV (ci := 12) (C := er_12) (T := et_12) (N := 5) (index := 148) hq_185 ho_185 hy_195 hp_195 hc_195 hi_195 hd_195 (List.mem_of_getElem? (i := 1992) (by decide +kernel)) hs_195 (List.mem_of_getElem? (i := 73) (by decide +kernel)) rfl (by decide +kernel) rfl
theorem t_185_11 : e_Sn 185 11 (o_ifeq 14 37) := s_ifne (off := (26)) hq_185 (by decide +kernel) rfl rfl
theorem t_185_37 : e_Sn 185 37 (o_push (.inl 2147483648) 38) := s_iconst (n := (0)) hq_185 (by decide +kernel) rfl ⟨by decide +kernel, by decide +kernel⟩
theorem t_185_38 : e_Sn 185 38 (o_goto 64) := s_goto (off := (26)) hq_185 (by decide +kernel) rfl
theorem t_185_64 : e_Sn 185 64 (o_ret e_okI) := s_iret hq_185 hr_185 (by decide +kernel)
noncomputable def e_tb_185 : e_X := (e_br 7 (e_br 2 (e_br 1 (e_lf 0 (o_load e_okR 0 1)) (e_lf 1 (o_load e_okR 0 2))) (e_br 3 (e_lf 2 (o_load e_okI 1 3)) (e_br 4 (e_lf 3 (o_load e_okI 2 4)) (e_lf 4 (o_callV (e_s1 12 165 3) 3 7))))) (e_br 37 (e_br 8 (e_lf 7 (o_push (.inl 2147483649) 8)) (e_br 11 (e_lf 8 (o_callV (e_s1 12 195 3) 3 11)) (e_lf 11 (o_ifeq 14 37)))) (e_br 38 (e_lf 37 (o_push (.inl 2147483648) 38)) (e_br 64 (e_lf 38 (o_goto 64)) (e_lf 64 (o_ret e_okI))))))
theorem e_tk_185 : e_Tb 185 e_tb_185 := (e_brT (e_brT (e_brT (e_lfT t_185_0) (e_lfT t_185_1)) (e_brT (e_lfT t_185_2) (e_brT (e_lfT t_185_3) (e_lfT t_185_4)))) (e_brT (e_brT (e_lfT t_185_7) (e_brT (e_lfT t_185_8) (e_lfT t_185_11))) (e_brT (e_lfT t_185_37) (e_brT (e_lfT t_185_38) (e_lfT t_185_64)))))
theorem hq_186 : (e_ml[186]?).map (·.2.1) = some prog_14_method_14_code := rfl
theorem ho_186 : (e_ml[186]?).map (·.1.cls) = some "PlateroomprinterModel" := rfl
theorem hr_186 : (e_ml[186]?).map (·.2.2.2) = some (some .int) := rfl
theorem t_186_0 : e_Sn 186 0 (o_push (.inl 2147483648) 1) := s_iconst (n := (0)) hq_186 (by decide +kernel) rfl ⟨by decide +kernel, by decide +kernel⟩
theorem t_186_1 : e_Sn 186 1 (o_store e_okI 1 2) := s_istore (i := .istore_n 1) (len := 1) hq_186 (by decide +kernel) rfl (.inr ⟨1, rfl, rfl, rfl⟩)
theorem t_186_2 : e_Sn 186 2 (o_push (.inl 2147483648) 3) := s_iconst (n := (0)) hq_186 (by decide +kernel) rfl ⟨by decide +kernel, by decide +kernel⟩
theorem t_186_3 : e_Sn 186 3 (o_store e_okI 2 4) := s_istore (i := .istore_n 2) (len := 1) hq_186 (by decide +kernel) rfl (.inr ⟨2, rfl, rfl, rfl⟩)
theorem t_186_4 : e_Sn 186 4 (o_load e_okI 2 5) := s_iload (i := .iload_n 2) (len := 1) hq_186 (by decide +kernel) rfl (.inr ⟨2, rfl, rfl, rfl⟩)
theorem t_186_5 : e_Sn 186 5 (o_load e_okR 0 6) := s_aload (i := .aload_n 0) (len := 1) hq_186 (by decide +kernel) rfl (.inr ⟨0, rfl, rfl, rfl⟩)
theorem t_186_6 : e_Sn 186 6 (o_callV (e_s1 18 234 1) 1 9) := s_callV (ci := 18) (C := er_18) (T := et_18) (N := 3) (index := 74) hq_186 ho_186 hy_234 hp_234 hc_234 hi_234 hd_234 (List.mem_of_getElem? (i := 2000) (by decide +kernel)) hs_234 (List.mem_of_getElem? (i := 2002) (by decide +kernel)) rfl (by decide +kernel) rfl
theorem t_186_9 : e_Sn 186 9 (o_clt 12 35) := s_cge (off := (26)) hq_186 (by decide +kernel) rfl rfl
theorem t_186_35 : e_Sn 186 35 (o_load e_okI 1 36) := s_iload (i := .iload_n 1) (len := 1) hq_186 (by decide +kernel) rfl (.inr ⟨1, rfl, rfl, rfl⟩)
theorem t_186_36 : e_Sn 186 36 (o_ret e_okI) := s_iret hq_186 hr_186 (by decide +kernel)
noncomputable def e_tb_186 : e_X := (e_br 5 (e_br 2 (e_br 1 (e_lf 0 (o_push (.inl 2147483648) 1)) (e_lf 1 (o_store e_okI 1 2))) (e_br 3 (e_lf 2 (o_push (.inl 2147483648) 3)) (e_br 4 (e_lf 3 (o_store e_okI 2 4)) (e_lf 4 (o_load e_okI 2 5))))) (e_br 9 (e_br 6 (e_lf 5 (o_load e_okR 0 6)) (e_lf 6 (o_callV (e_s1 18 234 1) 1 9))) (e_br 35 (e_lf 9 (o_clt 12 35)) (e_br 36 (e_lf 35 (o_load e_okI 1 36)) (e_lf 36 (o_ret e_okI))))))
theorem e_tk_186 : e_Tb 186 e_tb_186 := (e_brT (e_brT (e_brT (e_lfT t_186_0) (e_lfT t_186_1)) (e_brT (e_lfT t_186_2) (e_brT (e_lfT t_186_3) (e_lfT t_186_4)))) (e_brT (e_brT (e_lfT t_186_5) (e_lfT t_186_6)) (e_brT (e_lfT t_186_9) (e_brT (e_lfT t_186_35) (e_lfT t_186_36)))))
theorem hq_187 : (e_ml[187]?).map (·.2.1) = some prog_14_method_23_code := rfl
theorem ho_187 : (e_ml[187]?).map (·.1.cls) = some "PlateroomprinterModel" := rfl
theorem hr_187 : (e_ml[187]?).map (·.2.2.2) = some (some .boolean) := rfl
theorem t_187_0 : e_Sn 187 0 (o_load e_okI 1 1) := s_iload (i := .iload_n 1) (len := 1) hq_187 (by decide +kernel) rfl (.inr ⟨1, rfl, rfl, rfl⟩)
theorem t_187_1 : e_Sn 187 1 (o_ifeq 16 4) := s_ifeq (off := (15)) hq_187 (by decide +kernel) rfl rfl
theorem t_187_4 : e_Sn 187 4 (o_load e_okR 0 5) := s_aload (i := .aload_n 0) (len := 1) hq_187 (by decide +kernel) rfl (.inr ⟨0, rfl, rfl, rfl⟩)
theorem t_187_5 : e_Sn 187 5 (o_getf (e_f1 12 0) 8) := s_getf (C := er_12) (T := et_12) (N := 5) (ref := "PlateroomprinterModel") (index := 124) (ci := 12) (k := 0) hq_187 ho_187 ⟨rfl, by decide, ei_12, (List.mem_of_getElem? (i := 1958) (by decide +kernel)), .inl rfl⟩ (by decide +kernel) rfl
theorem t_187_8 : e_Sn 187 8 (o_ifeq 11 16) := s_ifne (off := (8)) hq_187 (by decide +kernel) rfl rfl
theorem t_187_11 : e_Sn 187 11 (o_load e_okR 0 12) := s_aload (i := .aload_n 0) (len := 1) hq_187 (by decide +kernel) rfl (.inr ⟨0, rfl, rfl, rfl⟩)
theorem t_187_12 : e_Sn 187 12 (o_load e_okI 2 13) := s_iload (i := .iload_n 2) (len := 1) hq_187 (by decide +kernel) rfl (.inr ⟨2, rfl, rfl, rfl⟩)
theorem t_187_13 : e_Sn 187 13 (o_putf (e_f1 12 0) e_okI 16) := s_putf (ty0 := ey_12) (ok := e_okI) (C := er_12) (T := et_12) (N := 5) (ref := "PlateroomprinterModel") (index := 124) (ci := 12) (k := 0) hq_187 ho_187 ⟨rfl, by decide, ei_12, (List.mem_of_getElem? (i := 1958) (by decide +kernel)), .inl rfl⟩ eo_12 en_12 e_oksI (.inl rfl) (by decide +kernel) rfl
theorem t_187_16 : e_Sn 187 16 (o_load e_okR 0 17) := s_aload (i := .aload_n 0) (len := 1) hq_187 (by decide +kernel) rfl (.inr ⟨0, rfl, rfl, rfl⟩)
theorem t_187_17 : e_Sn 187 17 (o_getf (e_f1 12 0) 20) := s_getf (C := er_12) (T := et_12) (N := 5) (ref := "PlateroomprinterModel") (index := 124) (ci := 12) (k := 0) hq_187 ho_187 ⟨rfl, by decide, ei_12, (List.mem_of_getElem? (i := 1958) (by decide +kernel)), .inl rfl⟩ (by decide +kernel) rfl
theorem t_187_20 : e_Sn 187 20 (o_ifgt 23 27) := s_ifle (off := (7)) hq_187 (by decide +kernel) rfl rfl
theorem t_187_23 : e_Sn 187 23 (o_push (.inl 2147483649) 24) := s_iconst (n := (1)) hq_187 (by decide +kernel) rfl ⟨by decide +kernel, by decide +kernel⟩
theorem t_187_24 : e_Sn 187 24 (o_goto 28) := s_goto (off := (4)) hq_187 (by decide +kernel) rfl
theorem t_187_27 : e_Sn 187 27 (o_push (.inl 2147483648) 28) := s_iconst (n := (0)) hq_187 (by decide +kernel) rfl ⟨by decide +kernel, by decide +kernel⟩
theorem t_187_28 : e_Sn 187 28 (o_ret e_okZ) := s_zret hq_187 hr_187 (by decide +kernel)
noncomputable def e_tb_187 : e_X := (e_br 13 (e_br 5 (e_br 1 (e_lf 0 (o_load e_okI 1 1)) (e_br 4 (e_lf 1 (o_ifeq 16 4)) (e_lf 4 (o_load e_okR 0 5)))) (e_br 11 (e_br 8 (e_lf 5 (o_getf (e_f1 12 0) 8)) (e_lf 8 (o_ifeq 11 16))) (e_br 12 (e_lf 11 (o_load e_okR 0 12)) (e_lf 12 (o_load e_okI 2 13))))) (e_br 23 (e_br 17 (e_br 16 (e_lf 13 (o_putf (e_f1 12 0) e_okI 16)) (e_lf 16 (o_load e_okR 0 17))) (e_br 20 (e_lf 17 (o_getf (e_f1 12 0) 20)) (e_lf 20 (o_ifgt 23 27)))) (e_br 27 (e_br 24 (e_lf 23 (o_push (.inl 2147483649) 24)) (e_lf 24 (o_goto 28))) (e_br 28 (e_lf 27 (o_push (.inl 2147483648) 28)) (e_lf 28 (o_ret e_okZ))))))
theorem e_tk_187 : e_Tb 187 e_tb_187 := (e_brT (e_brT (e_brT (e_lfT t_187_0) (e_brT (e_lfT t_187_1) (e_lfT t_187_4))) (e_brT (e_brT (e_lfT t_187_5) (e_lfT t_187_8)) (e_brT (e_lfT t_187_11) (e_lfT t_187_12)))) (e_brT (e_brT (e_brT (e_lfT t_187_13) (e_lfT t_187_16)) (e_brT (e_lfT t_187_17) (e_lfT t_187_20))) (e_brT (e_brT (e_lfT t_187_23) (e_lfT t_187_24)) (e_brT (e_lfT t_187_27) (e_lfT t_187_28)))))
theorem hq_188 : (e_ml[188]?).map (·.2.1) = some prog_14_method_51_code := rfl
theorem ho_188 : (e_ml[188]?).map (·.1.cls) = some "PlateroomprinterModel" := rfl
theorem hr_188 : (e_ml[188]?).map (·.2.2.2) = some (some .int) := rfl
theorem t_188_0 : e_Sn 188 0 (o_load e_okR 0 1) := s_aload (i := .aload_n 0) (len := 1) hq_188 (by decide +kernel) rfl (.inr ⟨0, rfl, rfl, rfl⟩)
theorem t_188_1 : e_Sn 188 1 (o_load e_okR 0 2) := s_aload (i := .aload_n 0) (len := 1) hq_188 (by decide +kernel) rfl (.inr ⟨0, rfl, rfl, rfl⟩)
theorem t_188_2 : e_Sn 188 2 (o_load e_okI 1 3) := s_iload (i := .iload_n 1) (len := 1) hq_188 (by decide +kernel) rfl (.inr ⟨1, rfl, rfl, rfl⟩)
theorem t_188_3 : e_Sn 188 3 (o_callV (e_s1 12 166 2) 2 6) := s_callV (ci := 12) (C := er_12) (T := et_12) (N := 5) (index := 268) hq_188 ho_188 hy_166 hp_166 hc_166 hi_166 hd_166 (List.mem_of_getElem? (i := 2973) (by decide +kernel)) hs_166 (List.mem_of_getElem? (i := 126) (by decide +kernel)) rfl (by decide +kernel) rfl
theorem t_188_6 : e_Sn 188 6 (o_push (.inl 2147483649) 7) := s_iconst (n := (1)) hq_188 (by decide +kernel) rfl ⟨by decide +kernel, by decide +kernel⟩
theorem t_188_7 : e_Sn 188 7 (o_callV (e_s1 12 195 3) 3 10) := s_callV (ci := 12) (C := er_12) (T := et_12) (N := 5) (index := 148) hq_188 ho_188 hy_195 hp_195 hc_195 hi_195 hd_195 (List.mem_of_getElem? (i := 1992) (by decide +kernel)) hs_195 (List.mem_of_getElem? (i := 73) (by decide +kernel)) rfl (by decide +kernel) rfl
theorem t_188_10 : e_Sn 188 10 (o_ifeq 13 36) := s_ifne (off := (26)) hq_188 (by decide +kernel) rfl rfl
theorem t_188_36 : e_Sn 188 36 (o_push (.inl 2147483648) 37) := s_iconst (n := (0)) hq_188 (by decide +kernel) rfl ⟨by decide +kernel, by decide +kernel⟩
theorem t_188_37 : e_Sn 188 37 (o_goto 46) := s_goto (off := (9)) hq_188 (by decide +kernel) rfl
theorem t_188_46 : e_Sn 188 46 (o_ret e_okI) := s_iret hq_188 hr_188 (by decide +kernel)
noncomputable def e_tb_188 : e_X := (e_br 7 (e_br 2 (e_br 1 (e_lf 0 (o_load e_okR 0 1)) (e_lf 1 (o_load e_okR 0 2))) (e_br 3 (e_lf 2 (o_load e_okI 1 3)) (e_br 6 (e_lf 3 (o_callV (e_s1 12 166 2) 2 6)) (e_lf 6 (o_push (.inl 2147483649) 7))))) (e_br 36 (e_br 10 (e_lf 7 (o_callV (e_s1 12 195 3) 3 10)) (e_lf 10 (o_ifeq 13 36))) (e_br 37 (e_lf 36 (o_push (.inl 2147483648) 37)) (e_br 46 (e_lf 37 (o_goto 46)) (e_lf 46 (o_ret e_okI))))))
theorem e_tk_188 : e_Tb 188 e_tb_188 := (e_brT (e_brT (e_brT (e_lfT t_188_0) (e_lfT t_188_1)) (e_brT (e_lfT t_188_2) (e_brT (e_lfT t_188_3) (e_lfT t_188_6)))) (e_brT (e_brT (e_lfT t_188_7) (e_lfT t_188_10)) (e_brT (e_lfT t_188_36) (e_brT (e_lfT t_188_37) (e_lfT t_188_46)))))
theorem hq_189 : (e_ml[189]?).map (·.2.1) = some prog_14_method_72_code := rfl
theorem ho_189 : (e_ml[189]?).map (·.1.cls) = some "PlateroomprinterModel" := rfl
theorem hr_189 : (e_ml[189]?).map (·.2.2.2) = some (some .int) := rfl
theorem t_189_0 : e_Sn 189 0 (o_load e_okR 0 1) := s_aload (i := .aload_n 0) (len := 1) hq_189 (by decide +kernel) rfl (.inr ⟨0, rfl, rfl, rfl⟩)
theorem t_189_1 : e_Sn 189 1 (o_load e_okI 1 2) := s_iload (i := .iload_n 1) (len := 1) hq_189 (by decide +kernel) rfl (.inr ⟨1, rfl, rfl, rfl⟩)
theorem t_189_2 : e_Sn 189 2 (o_callS 164 1 1 5) := s_callS (index := 333) hq_189 ho_189 hy_164 hp_164 hc_164 hi_164 hd_164 (List.mem_of_getElem? (i := 3067) (by decide +kernel)) hs_164 (by decide +kernel) rfl
theorem t_189_5 : e_Sn 189 5 (o_ifeq 8 20) := s_ifne (off := (15)) hq_189 (by decide +kernel) rfl rfl
theorem t_189_8 : e_Sn 189 8 (o_load e_okI 2 9) := s_iload (i := .iload_n 2) (len := 1) hq_189 (by decide +kernel) rfl (.inr ⟨2, rfl, rfl, rfl⟩)
theorem t_189_9 : e_Sn 189 9 (o_i2l 10) := s_i2l hq_189 (by decide +kernel) rfl
theorem t_189_10 : e_Sn 189 10 (o_push (e_L 9223372036854775808) 11) := s_lconst (n := 0) hq_189 (by decide +kernel) rfl ⟨by decide +kernel, by decide +kernel⟩
theorem t_189_11 : e_Sn 189 11 (o_push (e_L 9223372036854775839) 14) := s_ldc2 (index := 286) (v := (31)) hq_189 ho_189 (List.mem_of_getElem? (i := 3009) (by decide +kernel)) (by decide +kernel) rfl ⟨by decide +kernel, by decide +kernel⟩
theorem t_189_14 : e_Sn 189 14 (o_callS 162 6 3 17) := s_callS (index := 136) hq_189 ho_189 hy_162 hp_162 hc_162 hi_162 hd_162 (List.mem_of_getElem? (i := 1987) (by decide +kernel)) hs_162 (by decide +kernel) rfl
theorem t_189_17 : e_Sn 189 17 (o_ifeq 20 24) := s_ifne (off := (7)) hq_189 (by decide +kernel) rfl rfl
theorem t_189_20 : e_Sn 189 20 (o_push (.inl 2147483649) 21) := s_iconst (n := (1)) hq_189 (by decide +kernel) rfl ⟨by decide +kernel, by decide +kernel⟩
theorem t_189_21 : e_Sn 189 21 (o_goto 25) := s_goto (off := (4)) hq_189 (by decide +kernel) rfl
theorem t_189_24 : e_Sn 189 24 (o_push (.inl 2147483648) 25) := s_iconst (n := (0)) hq_189 (by decide +kernel) rfl ⟨by decide +kernel, by decide +kernel⟩
theorem t_189_25 : e_Sn 189 25 (o_push (.inl 2147483649) 26) := s_iconst (n := (1)) hq_189 (by decide +kernel) rfl ⟨by decide +kernel, by decide +kernel⟩
theorem t_189_26 : e_Sn 189 26 (o_callV (e_s1 12 195 3) 3 29) := s_callV (ci := 12) (C := er_12) (T := et_12) (N := 5) (index := 148) hq_189 ho_189 hy_195 hp_195 hc_195 hi_195 hd_195 (List.mem_of_getElem? (i := 1992) (by decide +kernel)) hs_195 (List.mem_of_getElem? (i := 73) (by decide +kernel)) rfl (by decide +kernel) rfl
theorem t_189_29 : e_Sn 189 29 (o_ifeq 36 32) := s_ifeq (off := (7)) hq_189 (by decide +kernel) rfl rfl
theorem t_189_32 : e_Sn 189 32 (o_push (.inl 2147483648) 33) := s_iconst (n := (0)) hq_189 (by decide +kernel) rfl ⟨by decide +kernel, by decide +kernel⟩
theorem t_189_33 : e_Sn 189 33 (o_goto 42) := s_goto (off := (9)) hq_189 (by decide +kernel) rfl
theorem t_189_36 : e_Sn 189 36 (o_load e_okR 0 37) := s_aload (i := .aload_n 0) (len := 1) hq_189 (by decide +kernel) rfl (.inr ⟨0, rfl, rfl, rfl⟩)
theorem t_189_37 : e_Sn 189 37 (o_load e_okI 1 38) := s_iload (i := .iload_n 1) (len := 1) hq_189 (by decide +kernel) rfl (.inr ⟨1, rfl, rfl, rfl⟩)
theorem t_189_38 : e_Sn 189 38 (o_load e_okI 2 39) := s_iload (i := .iload_n 2) (len := 1) hq_189 (by decide +kernel) rfl (.inr ⟨2, rfl, rfl, rfl⟩)
theorem t_189_39 : e_Sn 189 39 (o_callV (e_s1 12 190 5) 3 42) := s_callV (ci := 12) (C := er_12) (T := et_12) (N := 5) (index := 336) hq_189 ho_189 hy_190 hp_190 hc_190 hi_190 hd_190 (List.mem_of_getElem? (i := 3071) (by decide +kernel)) hs_190 (List.mem_of_getElem? (i := 133) (by decide +kernel)) rfl (by decide +kernel) rfl
theorem t_189_42 : e_Sn 189 42 (o_ret e_okI) := s_iret hq_189 hr_189 (by decide +kernel)
noncomputable def e_tb_189 : e_X := (e_br 21 (e_br 9 (e_br 2 (e_br 1 (e_lf 0 (o_load e_okR 0 1)) (e_lf 1 (o_load e_okI 1 2))) (e_br 5 (e_lf 2 (o_callS 164 1 1 5)) (e_br 8 (e_lf 5 (o_ifeq 8 20)) (e_lf 8 (o_load e_okI 2 9))))) (e_br 14 (e_br 10 (e_lf 9 (o_i2l 10)) (e_br 11 (e_lf 10 (o_push (e_L 9223372036854775808) 11)) (e_lf 11 (o_push (e_L 9223372036854775839) 14)))) (e_br 17 (e_lf 14 (o_callS 162 6 3 17)) (e_br 20 (e_lf 17 (o_ifeq 20 24)) (e_lf 20 (o_push (.inl 2147483649) 21)))))) (e_br 33 (e_br 26 (e_br 24 (e_lf 21 (o_goto 25)) (e_br 25 (e_lf 24 (o_push (.inl 2147483648) 25)) (e_lf 25 (o_push (.inl 2147483649) 26)))) (e_br 29 (e_lf 26 (o_callV (e_s1 12 195 3) 3 29)) (e_br 32 (e_lf 29 (o_ifeq 36 32)) (e_lf 32 (o_push (.inl 2147483648) 33))))) (e_br 38 (e_br 36 (e_lf 33 (o_goto 42)) (e_br 37 (e_lf 36 (o_load e_okR 0 37)) (e_lf 37 (o_load e_okI 1 38)))) (e_br 39 (e_lf 38 (o_load e_okI 2 39)) (e_br 42 (e_lf 39 (o_callV (e_s1 12 190 5) 3 42)) (e_lf 42 (o_ret e_okI)))))))
theorem e_tk_189 : e_Tb 189 e_tb_189 := (e_brT (e_brT (e_brT (e_brT (e_lfT t_189_0) (e_lfT t_189_1)) (e_brT (e_lfT t_189_2) (e_brT (e_lfT t_189_5) (e_lfT t_189_8)))) (e_brT (e_brT (e_lfT t_189_9) (e_brT (e_lfT t_189_10) (e_lfT t_189_11))) (e_brT (e_lfT t_189_14) (e_brT (e_lfT t_189_17) (e_lfT t_189_20))))) (e_brT (e_brT (e_brT (e_lfT t_189_21) (e_brT (e_lfT t_189_24) (e_lfT t_189_25))) (e_brT (e_lfT t_189_26) (e_brT (e_lfT t_189_29) (e_lfT t_189_32)))) (e_brT (e_brT (e_lfT t_189_33) (e_brT (e_lfT t_189_36) (e_lfT t_189_37))) (e_brT (e_lfT t_189_38) (e_brT (e_lfT t_189_39) (e_lfT t_189_42))))))
theorem hq_190 : (e_ml[190]?).map (·.2.1) = some prog_14_method_70_code := rfl
theorem ho_190 : (e_ml[190]?).map (·.1.cls) = some "PlateroomprinterModel" := rfl
theorem hr_190 : (e_ml[190]?).map (·.2.2.2) = some (some .int) := rfl
theorem t_190_0 : e_Sn 190 0 (o_push (.inl 2147483648) 1) := s_iconst (n := (0)) hq_190 (by decide +kernel) rfl ⟨by decide +kernel, by decide +kernel⟩
theorem t_190_1 : e_Sn 190 1 (o_store e_okI 3 2) := s_istore (i := .istore_n 3) (len := 1) hq_190 (by decide +kernel) rfl (.inr ⟨3, rfl, rfl, rfl⟩)
theorem t_190_2 : e_Sn 190 2 (o_push (.inl 2147483648) 3) := s_iconst (n := (0)) hq_190 (by decide +kernel) rfl ⟨by decide +kernel, by decide +kernel⟩
theorem t_190_3 : e_Sn 190 3 (o_store e_okI 4 5) := s_istore (i := .istore 4) (len := 2) hq_190 (by decide +kernel) rfl (.inl ⟨rfl, rfl⟩)
theorem t_190_5 : e_Sn 190 5 (o_load e_okI 4 7) := s_iload (i := .iload 4) (len := 2) hq_190 (by decide +kernel) rfl (.inl ⟨rfl, rfl⟩)
theorem t_190_7 : e_Sn 190 7 (o_push (.inl 2147483680) 9) := s_bipush (n := (32)) hq_190 (by decide +kernel) rfl ⟨by decide +kernel, by decide +kernel⟩
theorem t_190_9 : e_Sn 190 9 (o_clt 12 50) := s_cge (off := (41)) hq_190 (by decide +kernel) rfl rfl
theorem t_190_12 : e_Sn 190 12 (o_load e_okI 3 13) := s_iload (i := .iload_n 3) (len := 1) hq_190 (by decide +kernel) rfl (.inr ⟨3, rfl, rfl, rfl⟩)
theorem t_190_13 : e_Sn 190 13 (o_load e_okR 0 14) := s_aload (i := .aload_n 0) (len := 1) hq_190 (by decide +kernel) rfl (.inr ⟨0, rfl, rfl, rfl⟩)
theorem t_190_14 : e_Sn 190 14 (o_getf (e_f1 12 1) 17) := s_getf (C := er_12) (T := et_12) (N := 5) (ref := "PlateroomprinterModel") (index := 10) (ci := 12) (k := 1) hq_190 ho_190 ⟨rfl, by decide, ei_12, (List.mem_of_getElem? (i := 1959) (by decide +kernel)), .inl rfl⟩ (by decide +kernel) rfl
theorem t_190_17 : e_Sn 190 17 (o_getf (e_f1 13 6) 20) := s_getf (C := er_13) (T := et_13) (N := 13) (ref := "PlateroomprinterModel$Machine") (index := 324) (ci := 13) (k := 6) hq_190 ho_190 ⟨rfl, by decide, ei_13, (List.mem_of_getElem? (i := 1910) (by decide +kernel)), .inl rfl⟩ (by decide +kernel) rfl
theorem t_190_20 : e_Sn 190 20 (o_load e_okI 1 21) := s_iload (i := .iload_n 1) (len := 1) hq_190 (by decide +kernel) rfl (.inr ⟨1, rfl, rfl, rfl⟩)
theorem t_190_21 : e_Sn 190 21 (o_push (.inl 2147483680) 23) := s_bipush (n := (32)) hq_190 (by decide +kernel) rfl ⟨by decide +kernel, by decide +kernel⟩
theorem t_190_23 : e_Sn 190 23 (o_imul 24) := s_imul hq_190 (by decide +kernel) rfl
theorem t_190_24 : e_Sn 190 24 (o_push (.inl 2147483680) 26) := s_bipush (n := (32)) hq_190 (by decide +kernel) rfl ⟨by decide +kernel, by decide +kernel⟩
theorem t_190_26 : e_Sn 190 26 (o_imul 27) := s_imul hq_190 (by decide +kernel) rfl
theorem t_190_27 : e_Sn 190 27 (o_load e_okI 2 28) := s_iload (i := .iload_n 2) (len := 1) hq_190 (by decide +kernel) rfl (.inr ⟨2, rfl, rfl, rfl⟩)
theorem t_190_28 : e_Sn 190 28 (o_push (.inl 2147483680) 30) := s_bipush (n := (32)) hq_190 (by decide +kernel) rfl ⟨by decide +kernel, by decide +kernel⟩
theorem t_190_30 : e_Sn 190 30 (o_imul 31) := s_imul hq_190 (by decide +kernel) rfl
theorem t_190_31 : e_Sn 190 31 (o_iadd 32) := s_iadd hq_190 (by decide +kernel) rfl
theorem t_190_32 : e_Sn 190 32 (o_load e_okI 4 34) := s_iload (i := .iload 4) (len := 2) hq_190 (by decide +kernel) rfl (.inl ⟨rfl, rfl⟩)
theorem t_190_34 : e_Sn 190 34 (o_iadd 35) := s_iadd hq_190 (by decide +kernel) rfl
theorem t_190_35 : e_Sn 190 35 (o_aldO 1 36) := s_zald hq_190 (by decide +kernel) rfl
theorem t_190_36 : e_Sn 190 36 (o_callS 180 1 1 39) := s_callS (index := 107) hq_190 ho_190 hy_180 hp_180 hc_180 hi_180 hd_180 (List.mem_of_getElem? (i := 2482) (by decide +kernel)) hs_180 (by decide +kernel) rfl
theorem t_190_39 : e_Sn 190 39 (o_load e_okI 4 41) := s_iload (i := .iload 4) (len := 2) hq_190 (by decide +kernel) rfl (.inl ⟨rfl, rfl⟩)
theorem t_190_41 : e_Sn 190 41 (o_ishl 42) := s_ishl hq_190 (by decide +kernel) rfl
theorem t_190_42 : e_Sn 190 42 (o_bin Nat.lor 43) := s_ior hq_190 (by decide +kernel) rfl
theorem t_190_43 : e_Sn 190 43 (o_store e_okI 3 44) := s_istore (i := .istore_n 3) (len := 1) hq_190 (by decide +kernel) rfl (.inr ⟨3, rfl, rfl, rfl⟩)
theorem t_190_44 : e_Sn 190 44 (o_iinc 4 1 47) := s_iinc (zz := (1)) hq_190 (by decide +kernel) rfl (by decide +kernel) ⟨by decide, by decide⟩
theorem t_190_47 : e_Sn 190 47 (o_goto 5) := s_goto (off := (-42)) hq_190 (by decide +kernel) rfl
theorem t_190_50 : e_Sn 190 50 (o_load e_okI 3 51) := s_iload (i := .iload_n 3) (len := 1) hq_190 (by decide +kernel) rfl (.inr ⟨3, rfl, rfl, rfl⟩)
theorem t_190_51 : e_Sn 190 51 (o_ret e_okI) := s_iret hq_190 hr_190 (by decide +kernel)
noncomputable def e_tb_190 : e_X := (e_br 27 (e_br 13 (e_br 5 (e_br 2 (e_br 1 (e_lf 0 (o_push (.inl 2147483648) 1)) (e_lf 1 (o_store e_okI 3 2))) (e_br 3 (e_lf 2 (o_push (.inl 2147483648) 3)) (e_lf 3 (o_store e_okI 4 5)))) (e_br 9 (e_br 7 (e_lf 5 (o_load e_okI 4 7)) (e_lf 7 (o_push (.inl 2147483680) 9))) (e_br 12 (e_lf 9 (o_clt 12 50)) (e_lf 12 (o_load e_okI 3 13))))) (e_br 21 (e_br 17 (e_br 14 (e_lf 13 (o_load e_okR 0 14)) (e_lf 14 (o_getf (e_f1 12 1) 17))) (e_br 20 (e_lf 17 (o_getf (e_f1 13 6) 20)) (e_lf 20 (o_load e_okI 1 21)))) (e_br 24 (e_br 23 (e_lf 21 (o_push (.inl 2147483680) 23)) (e_lf 23 (o_imul 24))) (e_br 26 (e_lf 24 (o_push (.inl 2147483680) 26)) (e_lf 26 (o_imul 27)))))) (e_br 39 (e_br 32 (e_br 30 (e_br 28 (e_lf 27 (o_load e_okI 2 28)) (e_lf 28 (o_push (.inl 2147483680) 30))) (e_br 31 (e_lf 30 (o_imul 31)) (e_lf 31 (o_iadd 32)))) (e_br 35 (e_br 34 (e_lf 32 (o_load e_okI 4 34)) (e_lf 34 (o_iadd 35))) (e_br 36 (e_lf 35 (o_aldO 1 36)) (e_lf 36 (o_callS 180 1 1 39))))) (e_br 44 (e_br 42 (e_br 41 (e_lf 39 (o_load e_okI 4 41)) (e_lf 41 (o_ishl 42))) (e_br 43 (e_lf 42 (o_bin Nat.lor 43)) (e_lf 43 (o_store e_okI 3 44)))) (e_br 50 (e_br 47 (e_lf 44 (o_iinc 4 1 47)) (e_lf 47 (o_goto 5))) (e_br 51 (e_lf 50 (o_load e_okI 3 51)) (e_lf 51 (o_ret e_okI)))))))
theorem e_tk_190 : e_Tb 190 e_tb_190 := (e_brT (e_brT (e_brT (e_brT (e_brT (e_lfT t_190_0) (e_lfT t_190_1)) (e_brT (e_lfT t_190_2) (e_lfT t_190_3))) (e_brT (e_brT (e_lfT t_190_5) (e_lfT t_190_7)) (e_brT (e_lfT t_190_9) (e_lfT t_190_12)))) (e_brT (e_brT (e_brT (e_lfT t_190_13) (e_lfT t_190_14)) (e_brT (e_lfT t_190_17) (e_lfT t_190_20))) (e_brT (e_brT (e_lfT t_190_21) (e_lfT t_190_23)) (e_brT (e_lfT t_190_24) (e_lfT t_190_26))))) (e_brT (e_brT (e_brT (e_brT (e_lfT t_190_27) (e_lfT t_190_28)) (e_brT (e_lfT t_190_30) (e_lfT t_190_31))) (e_brT (e_brT (e_lfT t_190_32) (e_lfT t_190_34)) (e_brT (e_lfT t_190_35) (e_lfT t_190_36)))) (e_brT (e_brT (e_brT (e_lfT t_190_39) (e_lfT t_190_41)) (e_brT (e_lfT t_190_42) (e_lfT t_190_43))) (e_brT (e_brT (e_lfT t_190_44) (e_lfT t_190_47)) (e_brT (e_lfT t_190_50) (e_lfT t_190_51))))))
end SN
