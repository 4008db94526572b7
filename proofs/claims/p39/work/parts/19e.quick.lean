section RQ
theorem hq_110 : (e_ml[110]?).map (·.2.1) = some prog_50_method_20_code := Eq.trans (congrArg (Option.map (fun e => e.2.1)) hy_110) rfl
theorem ho_110 : (e_ml[110]?).map (·.1.cls) = some "java/util/ArrayList" := Eq.trans (congrArg (Option.map (fun e => e.1.cls)) hy_110) rfl
theorem hr_110 : (e_ml[110]?).map (·.2.2.2) = some (some (.object "java/lang/Object")) := Eq.trans (congrArg (Option.map (fun e => e.2.2.2)) hy_110) rfl
theorem hq_117 : (e_ml[117]?).map (·.2.1) = some prog_56_method_17_code := Eq.trans (congrArg (Option.map (fun e => e.2.1)) hy_117) rfl
theorem ho_117 : (e_ml[117]?).map (·.1.cls) = some "java/util/Objects" := Eq.trans (congrArg (Option.map (fun e => e.1.cls)) hy_117) rfl
theorem hr_117 : (e_ml[117]?).map (·.2.2.2) = some (some .int) := Eq.trans (congrArg (Option.map (fun e => e.2.2.2)) hy_117) rfl
theorem hq_118 : (e_ml[118]?).map (·.2.1) = some prog_60_method_11_code := Eq.trans (congrArg (Option.map (fun e => e.2.1)) hy_118) rfl
theorem ho_118 : (e_ml[118]?).map (·.1.cls) = some "jdk/internal/util/Preconditions" := Eq.trans (congrArg (Option.map (fun e => e.1.cls)) hy_118) rfl
theorem hr_118 : (e_ml[118]?).map (·.2.2.2) = some (some .int) := Eq.trans (congrArg (Option.map (fun e => e.2.2.2)) hy_118) rfl
theorem hq_108 : (e_ml[108]?).map (·.2.1) = some prog_50_method_18_code := Eq.trans (congrArg (Option.map (fun e => e.2.1)) hy_108) rfl
theorem ho_108 : (e_ml[108]?).map (·.1.cls) = some "java/util/ArrayList" := Eq.trans (congrArg (Option.map (fun e => e.1.cls)) hy_108) rfl
theorem hr_108 : (e_ml[108]?).map (·.2.2.2) = some (some (.object "java/lang/Object")) := Eq.trans (congrArg (Option.map (fun e => e.2.2.2)) hy_108) rfl
theorem hq_116 : (e_ml[116]?).map (·.2.1) = some prog_50_method_8_code := Eq.trans (congrArg (Option.map (fun e => e.2.1)) hy_116) rfl
theorem ho_116 : (e_ml[116]?).map (·.1.cls) = some "java/util/ArrayList" := Eq.trans (congrArg (Option.map (fun e => e.1.cls)) hy_116) rfl
theorem hr_116 : (e_ml[116]?).map (·.2.2.2) = some (some .int) := Eq.trans (congrArg (Option.map (fun e => e.2.2.2)) hy_116) rfl
theorem hq_98 : (e_ml[98]?).map (·.2.1) = some prog_20_method_2_code := Eq.trans (congrArg (Option.map (fun e => e.2.1)) hy_98) rfl
theorem ho_98 : (e_ml[98]?).map (·.1.cls) = some "PlateroomprinterModel$Run" := Eq.trans (congrArg (Option.map (fun e => e.1.cls)) hy_98) rfl
theorem hr_98 : (e_ml[98]?).map (·.2.2.2) = some (some (.object "PlateroomprinterModel$Row")) := Eq.trans (congrArg (Option.map (fun e => e.2.2.2)) hy_98) rfl
theorem hq_24 : (e_ml[24]?).map (·.2.1) = some prog_3_method_13_code := Eq.trans (congrArg (Option.map (fun e => e.2.1)) hy_24) rfl
theorem ho_24 : (e_ml[24]?).map (·.1.cls) = some "Plateroomprinter$Engine" := Eq.trans (congrArg (Option.map (fun e => e.1.cls)) hy_24) rfl
theorem hr_24 : (e_ml[24]?).map (·.2.2.2) = some (some .int) := Eq.trans (congrArg (Option.map (fun e => e.2.2.2)) hy_24) rfl
theorem rq_110_0 : e_Sn 110 0 (o_load e_okI 1 1) := s_iload (i := .iload_n 1) (len := 1) hq_110 (by decide +kernel) rfl (.inr ⟨1, rfl, rfl, rfl⟩)
theorem rq_110_1 : e_Sn 110 1 (o_load e_okR 0 2) := s_aload (i := .aload_n 0) (len := 1) hq_110 (by decide +kernel) rfl (.inr ⟨0, rfl, rfl, rfl⟩)
theorem rq_110_2 : e_Sn 110 2 (o_getf (e_f1 19 1) 5) := s_getf (C := er_19) (T := et_19) (N := 3) (ref := "java/util/ArrayList") (index := 48) (ci := 19) (k := 1) hq_110 ho_110 ⟨rfl, by decide, ei_19, r_m_7_190, .inl rfl⟩ (by decide +kernel) rfl
theorem rq_110_5 : e_Sn 110 5 (o_callS 117 2 2 8) := s_callS (index := 118) hq_110 ho_110 hy_117 hp_117 hc_117 hi_117 hd_117 r_m_8_200 hs_117 (by decide +kernel) rfl
theorem rq_110_8 : e_Sn 110 8 (o_pop 9) := s_pop hq_110 (by decide +kernel) rfl
theorem rq_110_9 : e_Sn 110 9 (o_load e_okR 0 10) := s_aload (i := .aload_n 0) (len := 1) hq_110 (by decide +kernel) rfl (.inr ⟨0, rfl, rfl, rfl⟩)
theorem rq_110_10 : e_Sn 110 10 (o_load e_okI 1 11) := s_iload (i := .iload_n 1) (len := 1) hq_110 (by decide +kernel) rfl (.inr ⟨1, rfl, rfl, rfl⟩)
theorem rq_110_11 : e_Sn 110 11 (o_callV (e_s1 19 108 2) 2 14) := s_callV (ci := 19) (C := er_19) (T := et_19) (N := 3) (index := 123) hq_110 ho_110 hy_108 hp_108 hc_108 hi_108 hd_108 r_m_8_232 hs_108 r_m_8_234 rfl (by decide +kernel) rfl
theorem rq_110_14 : e_Sn 110 14 (o_ret e_okR) := s_aret (.inl ⟨_, rfl⟩) hq_110 hr_110 (by decide +kernel)
theorem rq_117_0 : e_Sn 117 0 (o_load e_okI 0 1) := s_iload (i := .iload_n 0) (len := 1) hq_117 (by decide +kernel) rfl (.inr ⟨0, rfl, rfl, rfl⟩)
theorem rq_117_1 : e_Sn 117 1 (o_load e_okI 1 2) := s_iload (i := .iload_n 1) (len := 1) hq_117 (by decide +kernel) rfl (.inr ⟨1, rfl, rfl, rfl⟩)
theorem rq_117_2 : e_Sn 117 2 (o_push e_N 3) := s_null hq_117 (by decide +kernel) rfl
theorem rq_117_3 : e_Sn 117 3 (o_callS 118 3 3 6) := s_callS (index := 105) hq_117 ho_117 hy_118 hp_118 hc_118 hi_118 hd_118 r_m_8_203 hs_118 (by decide +kernel) rfl
theorem rq_117_6 : e_Sn 117 6 (o_ret e_okI) := s_iret hq_117 hr_117 (by decide +kernel)
theorem rq_118_0 : e_Sn 118 0 (o_load e_okI 0 1) := s_iload (i := .iload_n 0) (len := 1) hq_118 (by decide +kernel) rfl (.inr ⟨0, rfl, rfl, rfl⟩)
theorem rq_118_1 : e_Sn 118 1 (o_iflt 9 4) := s_iflt (off := (8)) hq_118 (by decide +kernel) rfl rfl
theorem rq_118_4 : e_Sn 118 4 (o_load e_okI 0 5) := s_iload (i := .iload_n 0) (len := 1) hq_118 (by decide +kernel) rfl (.inr ⟨0, rfl, rfl, rfl⟩)
theorem rq_118_5 : e_Sn 118 5 (o_load e_okI 1 6) := s_iload (i := .iload_n 1) (len := 1) hq_118 (by decide +kernel) rfl (.inr ⟨1, rfl, rfl, rfl⟩)
theorem rq_118_6 : e_Sn 118 6 (o_clt 16 9) := s_clt (off := (10)) hq_118 (by decide +kernel) rfl rfl
theorem rq_118_16 : e_Sn 118 16 (o_load e_okI 0 17) := s_iload (i := .iload_n 0) (len := 1) hq_118 (by decide +kernel) rfl (.inr ⟨0, rfl, rfl, rfl⟩)
theorem rq_118_17 : e_Sn 118 17 (o_ret e_okI) := s_iret hq_118 hr_118 (by decide +kernel)
theorem rq_108_0 : e_Sn 108 0 (o_load e_okR 0 1) := s_aload (i := .aload_n 0) (len := 1) hq_108 (by decide +kernel) rfl (.inr ⟨0, rfl, rfl, rfl⟩)
theorem rq_108_1 : e_Sn 108 1 (o_getf (e_f1 19 0) 4) := s_getf (C := er_19) (T := et_19) (N := 3) (ref := "java/util/ArrayList") (index := 9) (ci := 19) (k := 0) hq_108 ho_108 ⟨rfl, by decide, ei_19, r_m_7_187, .inl rfl⟩ (by decide +kernel) rfl
theorem rq_108_4 : e_Sn 108 4 (o_load e_okI 1 5) := s_iload (i := .iload_n 1) (len := 1) hq_108 (by decide +kernel) rfl (.inr ⟨1, rfl, rfl, rfl⟩)
theorem rq_108_5 : e_Sn 108 5 (o_aldO 3 6) := s_aald (tc := 0) rfl hq_108 (by decide +kernel) rfl
theorem rq_108_6 : e_Sn 108 6 (o_ret e_okR) := s_aret (.inl ⟨_, rfl⟩) hq_108 hr_108 (by decide +kernel)
theorem rq_116_0 : e_Sn 116 0 (o_load e_okR 0 1) := s_aload (i := .aload_n 0) (len := 1) hq_116 (by decide +kernel) rfl (.inr ⟨0, rfl, rfl, rfl⟩)
theorem rq_116_1 : e_Sn 116 1 (o_getf (e_f1 19 1) 4) := s_getf (C := er_19) (T := et_19) (N := 3) (ref := "java/util/ArrayList") (index := 48) (ci := 19) (k := 1) hq_116 ho_116 ⟨rfl, by decide, ei_19, r_m_7_190, .inl rfl⟩ (by decide +kernel) rfl
theorem rq_116_4 : e_Sn 116 4 (o_ret e_okI) := s_iret hq_116 hr_116 (by decide +kernel)
theorem rq_98_0 : e_Sn 98 0 (o_load e_okR 0 1) := s_aload (i := .aload_n 0) (len := 1) hq_98 (by decide +kernel) rfl (.inr ⟨0, rfl, rfl, rfl⟩)
theorem rq_98_1 : e_Sn 98 1 (o_getf (e_f1 16 1) 4) := s_getf (C := er_16) (T := et_16) (N := 5) (ref := "PlateroomprinterModel$Run") (index := 12) (ci := 16) (k := 1) hq_98 ho_98 ⟨rfl, by decide, ei_16, r_m_9_90, .inl rfl⟩ (by decide +kernel) rfl
theorem rq_98_4 : e_Sn 98 4 (o_load e_okR 0 5) := s_aload (i := .aload_n 0) (len := 1) hq_98 (by decide +kernel) rfl (.inr ⟨0, rfl, rfl, rfl⟩)
theorem rq_98_5 : e_Sn 98 5 (o_getf (e_f1 16 1) 8) := s_getf (C := er_16) (T := et_16) (N := 5) (ref := "PlateroomprinterModel$Run") (index := 12) (ci := 16) (k := 1) hq_98 ho_98 ⟨rfl, by decide, ei_16, r_m_9_90, .inl rfl⟩ (by decide +kernel) rfl
theorem rq_98_8 : e_Sn 98 8 (o_callV (e_s1 19 116 1) 1 11) := s_callV (ci := 19) (C := er_19) (T := et_19) (N := 3) (index := 38) hq_98 ho_98 hy_116 hp_116 hc_116 hi_116 hd_116 r_m_9_120 hs_116 r_m_8_181 rfl (by decide +kernel) rfl
theorem rq_98_11 : e_Sn 98 11 (o_push (.inl 2147483649) 12) := s_iconst (n := (1)) hq_98 (by decide +kernel) rfl ⟨by decide +kernel, by decide +kernel⟩
theorem rq_98_12 : e_Sn 98 12 (o_isub 13) := s_isub hq_98 (by decide +kernel) rfl
theorem rq_98_13 : e_Sn 98 13 (o_callV (e_s1 19 110 2) 2 16) := s_callV (ci := 19) (C := er_19) (T := et_19) (N := 3) (index := 42) hq_98 ho_98 hy_110 hp_110 hc_110 hi_110 hd_110 r_m_9_121 hs_110 r_m_8_230 rfl (by decide +kernel) rfl
theorem rq_98_16 : e_Sn 98 16 (o_cast 15 19) := s_cast (index := 29) hq_98 ho_98 r_m_9_55 (.inl ⟨by decide, rfl⟩) (by decide +kernel) rfl
theorem rq_98_19 : e_Sn 98 19 (o_ret e_okR) := s_aret (.inl ⟨_, rfl⟩) hq_98 hr_98 (by decide +kernel)
theorem rq_24_0 : e_Sn 24 0 (o_push (.inl 2147483648) 1) := s_iconst (n := (0)) hq_24 (by decide +kernel) rfl ⟨by decide +kernel, by decide +kernel⟩
theorem rq_24_1 : e_Sn 24 1 (o_store e_okI 2 2) := s_istore (i := .istore_n 2) (len := 1) hq_24 (by decide +kernel) rfl (.inr ⟨2, rfl, rfl, rfl⟩)
theorem rq_24_2 : e_Sn 24 2 (o_push (.inl 2147483648) 3) := s_iconst (n := (0)) hq_24 (by decide +kernel) rfl ⟨by decide +kernel, by decide +kernel⟩
theorem rq_24_3 : e_Sn 24 3 (o_store e_okI 3 4) := s_istore (i := .istore_n 3) (len := 1) hq_24 (by decide +kernel) rfl (.inr ⟨3, rfl, rfl, rfl⟩)
theorem rq_24_4 : e_Sn 24 4 (o_load e_okI 3 5) := s_iload (i := .iload_n 3) (len := 1) hq_24 (by decide +kernel) rfl (.inr ⟨3, rfl, rfl, rfl⟩)
theorem rq_24_5 : e_Sn 24 5 (o_push (.inl 2147483654) 7) := s_bipush (n := (6)) hq_24 (by decide +kernel) rfl ⟨by decide +kernel, by decide +kernel⟩
theorem rq_24_7 : e_Sn 24 7 (o_clt 10 27) := s_cge (off := (20)) hq_24 (by decide +kernel) rfl rfl
theorem rq_24_10 : e_Sn 24 10 (o_load e_okI 1 11) := s_iload (i := .iload_n 1) (len := 1) hq_24 (by decide +kernel) rfl (.inr ⟨1, rfl, rfl, rfl⟩)
theorem rq_24_11 : e_Sn 24 11 (o_push (.inl 2147483652) 12) := s_iconst (n := (4)) hq_24 (by decide +kernel) rfl ⟨by decide +kernel, by decide +kernel⟩
theorem rq_24_12 : e_Sn 24 12 (o_load e_okI 3 13) := s_iload (i := .iload_n 3) (len := 1) hq_24 (by decide +kernel) rfl (.inr ⟨3, rfl, rfl, rfl⟩)
theorem rq_24_13 : e_Sn 24 13 (o_imul 14) := s_imul hq_24 (by decide +kernel) rfl
theorem rq_24_14 : e_Sn 24 14 (o_ishr 15) := s_ishr hq_24 (by decide +kernel) rfl
theorem rq_24_15 : e_Sn 24 15 (o_ifeq 21 18) := s_ifeq (off := (6)) hq_24 (by decide +kernel) rfl rfl
theorem rq_24_21 : e_Sn 24 21 (o_iinc 3 1 24) := s_iinc (zz := (1)) hq_24 (by decide +kernel) rfl (by decide +kernel) ⟨by decide, by decide⟩
theorem rq_24_24 : e_Sn 24 24 (o_goto 4) := s_goto (off := (-20)) hq_24 (by decide +kernel) rfl
theorem rq_24_27 : e_Sn 24 27 (o_load e_okR 0 28) := s_aload (i := .aload_n 0) (len := 1) hq_24 (by decide +kernel) rfl (.inr ⟨0, rfl, rfl, rfl⟩)
theorem rq_24_28 : e_Sn 24 28 (o_getf (e_f1 2 0) 31) := s_getf (C := er_2) (T := et_2) (N := 19) (ref := "Plateroomprinter$Engine") (index := 45) (ci := 2) (k := 0) hq_24 ho_24 ⟨rfl, by decide, ei_2, r_m_2_239, .inl rfl⟩ (by decide +kernel) rfl
theorem rq_24_31 : e_Sn 24 31 (o_getf (e_f1 11 0) 34) := s_getf (C := er_11) (T := et_11) (N := 15) (ref := "Plateroomprinter$World") (index := 93) (ci := 11) (k := 0) hq_24 ho_24 ⟨rfl, by decide, ei_11, r_m_2_83, .inl rfl⟩ (by decide +kernel) rfl
theorem rq_24_34 : e_Sn 24 34 (o_store e_okR 3 35) := s_astore (i := .astore_n 3) (len := 1) hq_24 (by decide +kernel) rfl (.inr ⟨3, rfl, rfl, rfl⟩)
theorem rq_24_35 : e_Sn 24 35 (o_push (.inl 2147483648) 36) := s_iconst (n := (0)) hq_24 (by decide +kernel) rfl ⟨by decide +kernel, by decide +kernel⟩
theorem rq_24_36 : e_Sn 24 36 (o_store e_okI 4 38) := s_istore (i := .istore 4) (len := 2) hq_24 (by decide +kernel) rfl (.inl ⟨rfl, rfl⟩)
theorem rq_24_38 : e_Sn 24 38 (o_load e_okI 4 40) := s_iload (i := .iload 4) (len := 2) hq_24 (by decide +kernel) rfl (.inl ⟨rfl, rfl⟩)
theorem rq_24_40 : e_Sn 24 40 (o_load e_okI 2 41) := s_iload (i := .iload_n 2) (len := 1) hq_24 (by decide +kernel) rfl (.inr ⟨2, rfl, rfl, rfl⟩)
theorem rq_24_41 : e_Sn 24 41 (o_clt 44 154) := s_cge (off := (113)) hq_24 (by decide +kernel) rfl rfl
theorem rq_24_154 : e_Sn 24 154 (o_push (.inl 2147483648) 155) := s_iconst (n := (0)) hq_24 (by decide +kernel) rfl ⟨by decide +kernel, by decide +kernel⟩
theorem rq_24_155 : e_Sn 24 155 (o_ret e_okI) := s_iret hq_24 hr_24 (by decide +kernel)
end RQ
