/-! TABLES, by program -/
section SN
theorem hq_144 : (e_ml[144]?).map (·.2.1) = some prog_14_method_85_code := rfl
theorem ho_144 : (e_ml[144]?).map (·.1.cls) = some "PlateroomprinterModel" := rfl
theorem hr_144 : (e_ml[144]?).map (·.2.2.2) = some (some .long) := rfl
noncomputable def n_144_467 : e_Y := u_tab (o_ret e_okL)
theorem t_144_467 : e_Sn 144 467 (e_un n_144_467) := u_tabT (s_lret hq_144 hr_144 (by decide +kernel) : e_Sn 144 467 (o_ret e_okL))
noncomputable def n_144_464 : e_Y := u_callS 133 4 23 2 n_133_0 n_144_467
theorem t_144_464 : e_Sn 144 464 (e_un n_144_464) := u_callST rfl (s_callS (index := 370) hq_144 ho_144 hy_133 hp_133 hc_133 hi_133 hd_133 (List.mem_of_getElem? (i := 3147) (by decide +kernel)) hs_133 (by decide +kernel) rfl : e_Sn 144 464 (o_callS 133 4 2 467)) t_133_0 t_144_467
noncomputable def n_144_463 : e_Y := u_push (e_L 9223372036854775809) n_144_464
theorem t_144_463 : e_Sn 144 463 (e_un n_144_463) := u_pushT (s_lconst (n := 1) hq_144 (by decide +kernel) rfl ⟨by decide +kernel, by decide +kernel⟩ : e_Sn 144 463 (o_push (e_L 9223372036854775809) 464)) t_144_464
noncomputable def n_144_462 : e_Y := u_old (o_load e_okL 1 463) n_144_463
theorem t_144_462 : e_Sn 144 462 (e_un n_144_462) := u_oldT (s_lload (i := .lload_n 1) (len := 1) hq_144 (by decide +kernel) rfl (.inr ⟨1, rfl, rfl, rfl⟩) : e_Sn 144 462 (o_load e_okL 1 463)) t_144_463 e_congr_load
noncomputable def n_144_459 : e_Y := (u_at 439)
theorem t_144_459 : e_Sn 144 459 (e_un n_144_459) := u_gotoT (s_goto (off := (-20)) hq_144 (by decide +kernel) rfl : e_Sn 144 459 (o_goto 439)) u_atT
noncomputable def n_144_456 : e_Y := u_inc f_l3 f_s3 1 n_144_459
theorem t_144_456 : e_Sn 144 456 (e_un n_144_456) := u_incT f_l3_eq (fun _ _ _ => f_s3_eq) (s_iinc (zz := (1)) hq_144 (by decide +kernel) rfl (by decide +kernel) ⟨by decide, by decide⟩ : e_Sn 144 456 (o_iinc 3 1 459)) t_144_459
noncomputable def n_144_455 : e_Y := u_old (o_storeL 1 456) n_144_456
theorem t_144_455 : e_Sn 144 455 (e_un n_144_455) := u_oldT (s_lstore (i := .lstore_n 1) (len := 1) hq_144 (by decide +kernel) rfl (.inr ⟨1, rfl, rfl, rfl⟩) : e_Sn 144 455 (o_storeL 1 456)) t_144_456 (e_cg_storeL 1)
noncomputable def n_144_452 : e_Y := u_callS 133 4 23 2 n_133_0 n_144_455
theorem t_144_452 : e_Sn 144 452 (e_un n_144_452) := u_callST rfl (s_callS (index := 370) hq_144 ho_144 hy_133 hp_133 hc_133 hi_133 hd_133 (List.mem_of_getElem? (i := 3147) (by decide +kernel)) hs_133 (by decide +kernel) rfl : e_Sn 144 452 (o_callS 133 4 2 455)) t_133_0 t_144_455
noncomputable def n_144_451 : e_Y := u_old (o_i2l 452) n_144_452
theorem t_144_451 : e_Sn 144 451 (e_un n_144_451) := u_oldT (s_i2l hq_144 (by decide +kernel) rfl : e_Sn 144 451 (o_i2l 452)) t_144_452 e_congr_i2l
noncomputable def n_144_448 : e_Y := u_callV 12 182 4 23 2 n_182_0 n_144_451
theorem t_144_448 : e_Sn 144 448 (e_un n_144_448) := u_callVT rfl (s_callV (ci := 12) (C := er_12) (T := et_12) (N := 5) (index := 367) hq_144 ho_144 hy_182 hp_182 hc_182 hi_182 hd_182 (List.mem_of_getElem? (i := 3130) (by decide +kernel)) hs_182 (List.mem_of_getElem? (i := 135) (by decide +kernel)) rfl (by decide +kernel) rfl : e_Sn 144 448 (o_callV (e_s1 12 182 4) 2 451)) t_182_0 t_144_451
noncomputable def n_144_447 : e_Y := u_ld f_okI f_l3 n_144_448
theorem t_144_447 : e_Sn 144 447 (e_un n_144_447) := u_ldIT f_l3_eq (s_iload (i := .iload_n 3) (len := 1) hq_144 (by decide +kernel) rfl (.inr ⟨3, rfl, rfl, rfl⟩) : e_Sn 144 447 (o_load e_okI 3 448)) t_144_448
noncomputable def n_144_446 : e_Y := u_ld f_okA f_l0 n_144_447
theorem t_144_446 : e_Sn 144 446 (e_un n_144_446) := u_ldAT f_l0_eq (s_aload (i := .aload_n 0) (len := 1) hq_144 (by decide +kernel) rfl (.inr ⟨0, rfl, rfl, rfl⟩) : e_Sn 144 446 (o_load e_okR 0 447)) t_144_447
noncomputable def n_144_445 : e_Y := u_old (o_load e_okL 1 446) n_144_446
theorem t_144_445 : e_Sn 144 445 (e_un n_144_445) := u_oldT (s_lload (i := .lload_n 1) (len := 1) hq_144 (by decide +kernel) rfl (.inr ⟨1, rfl, rfl, rfl⟩) : e_Sn 144 445 (o_load e_okL 1 446)) t_144_446 e_congr_load
noncomputable def n_144_442 : e_Y := u_jmp y_ge (u_old2 (o_clt 445 462) 445 n_144_445 n_144_462) n_144_445 n_144_462
theorem t_144_442 : e_Sn 144 442 (e_un n_144_442) := u_cltT rfl (s_cge (off := (20)) hq_144 (by decide +kernel) rfl rfl : e_Sn 144 442 (o_clt 445 462)) t_144_445 t_144_462
noncomputable def n_144_440 : e_Y := u_push (.inl 2147483654) n_144_442
theorem t_144_440 : e_Sn 144 440 (e_un n_144_440) := u_pushT (s_bipush (n := (6)) hq_144 (by decide +kernel) rfl ⟨by decide +kernel, by decide +kernel⟩ : e_Sn 144 440 (o_push (.inl 2147483654) 442)) t_144_442
noncomputable def n_144_439 : e_Y := u_ld f_okI f_l3 n_144_440
theorem t_144_439 : e_Sn 144 439 (e_un n_144_439) := u_ldIT f_l3_eq (s_iload (i := .iload_n 3) (len := 1) hq_144 (by decide +kernel) rfl (.inr ⟨3, rfl, rfl, rfl⟩) : e_Sn 144 439 (o_load e_okI 3 440)) t_144_440
noncomputable def n_144_438 : e_Y := u_st f_okI f_s3 n_144_439
theorem t_144_438 : e_Sn 144 438 (e_un n_144_438) := u_stIT (fun _ _ _ => f_s3_eq) (s_istore (i := .istore_n 3) (len := 1) hq_144 (by decide +kernel) rfl (.inr ⟨3, rfl, rfl, rfl⟩) : e_Sn 144 438 (o_store e_okI 3 439)) t_144_439
noncomputable def n_144_437 : e_Y := u_push (.inl 2147483648) n_144_438
theorem t_144_437 : e_Sn 144 437 (e_un n_144_437) := u_pushT (s_iconst (n := (0)) hq_144 (by decide +kernel) rfl ⟨by decide +kernel, by decide +kernel⟩ : e_Sn 144 437 (o_push (.inl 2147483648) 438)) t_144_438
noncomputable def n_144_434 : e_Y := (u_at 368)
theorem t_144_434 : e_Sn 144 434 (e_un n_144_434) := u_gotoT (s_goto (off := (-66)) hq_144 (by decide +kernel) rfl : e_Sn 144 434 (o_goto 368)) u_atT
noncomputable def n_144_431 : e_Y := u_inc f_l3 f_s3 1 n_144_434
theorem t_144_431 : e_Sn 144 431 (e_un n_144_431) := u_incT f_l3_eq (fun _ _ _ => f_s3_eq) (s_iinc (zz := (1)) hq_144 (by decide +kernel) rfl (by decide +kernel) ⟨by decide, by decide⟩ : e_Sn 144 431 (o_iinc 3 1 434)) t_144_434
noncomputable def n_144_430 : e_Y := u_old (o_storeL 1 431) n_144_431
theorem t_144_430 : e_Sn 144 430 (e_un n_144_430) := u_oldT (s_lstore (i := .lstore_n 1) (len := 1) hq_144 (by decide +kernel) rfl (.inr ⟨1, rfl, rfl, rfl⟩) : e_Sn 144 430 (o_storeL 1 431)) t_144_431 (e_cg_storeL 1)
noncomputable def n_144_427 : e_Y := u_callS 133 4 23 2 n_133_0 n_144_430
theorem t_144_427 : e_Sn 144 427 (e_un n_144_427) := u_callST rfl (s_callS (index := 370) hq_144 ho_144 hy_133 hp_133 hc_133 hi_133 hd_133 (List.mem_of_getElem? (i := 3147) (by decide +kernel)) hs_133 (by decide +kernel) rfl : e_Sn 144 427 (o_callS 133 4 2 430)) t_133_0 t_144_430
noncomputable def n_144_426 : e_Y := u_old (o_i2l 427) n_144_427
theorem t_144_426 : e_Sn 144 426 (e_un n_144_426) := u_oldT (s_i2l hq_144 (by decide +kernel) rfl : e_Sn 144 426 (o_i2l 427)) t_144_427 e_congr_i2l
noncomputable def n_144_423 : e_Y := u_callV 19 236 1 20 1 n_236_0 n_144_426
theorem t_144_423 : e_Sn 144 423 (e_un n_144_423) := u_callVT rfl (s_callV (ci := 19) (C := er_19) (T := et_19) (N := 3) (index := 74) hq_144 ho_144 hy_236 hp_236 hc_236 hi_236 hd_236 (List.mem_of_getElem? (i := 2000) (by decide +kernel)) hs_236 (List.mem_of_getElem? (i := 2002) (by decide +kernel)) rfl (by decide +kernel) rfl : e_Sn 144 423 (o_callV (e_s1 19 236 1) 1 426)) t_236_0 t_144_426
noncomputable def n_144_420 : e_Y := u_callV 12 194 6 25 2 n_194_0 n_144_423
theorem t_144_420 : e_Sn 144 420 (e_un n_144_420) := u_callVT rfl (s_callV (ci := 12) (C := er_12) (T := et_12) (N := 5) (index := 357) hq_144 ho_144 hy_194 hp_194 hc_194 hi_194 hd_194 (List.mem_of_getElem? (i := 3093) (by decide +kernel)) hs_194 (List.mem_of_getElem? (i := 134) (by decide +kernel)) rfl (by decide +kernel) rfl : e_Sn 144 420 (o_callV (e_s1 12 194 6) 2 423)) t_194_0 t_144_423
noncomputable def n_144_419 : e_Y := u_ld f_okI f_l3 n_144_420
theorem t_144_419 : e_Sn 144 419 (e_un n_144_419) := u_ldIT f_l3_eq (s_iload (i := .iload_n 3) (len := 1) hq_144 (by decide +kernel) rfl (.inr ⟨3, rfl, rfl, rfl⟩) : e_Sn 144 419 (o_load e_okI 3 420)) t_144_420
noncomputable def n_144_418 : e_Y := u_ld f_okA f_l0 n_144_419
theorem t_144_418 : e_Sn 144 418 (e_un n_144_418) := u_ldAT f_l0_eq (s_aload (i := .aload_n 0) (len := 1) hq_144 (by decide +kernel) rfl (.inr ⟨0, rfl, rfl, rfl⟩) : e_Sn 144 418 (o_load e_okR 0 419)) t_144_419
noncomputable def n_144_415 : e_Y := u_callS 133 4 23 2 n_133_0 n_144_418
theorem t_144_415 : e_Sn 144 415 (e_un n_144_415) := u_callST rfl (s_callS (index := 370) hq_144 ho_144 hy_133 hp_133 hc_133 hi_133 hd_133 (List.mem_of_getElem? (i := 3147) (by decide +kernel)) hs_133 (by decide +kernel) rfl : e_Sn 144 415 (o_callS 133 4 2 418)) t_133_0 t_144_418
noncomputable def n_144_414 : e_Y := u_old (o_i2l 415) n_144_415
theorem t_144_414 : e_Sn 144 414 (e_un n_144_414) := u_oldT (s_i2l hq_144 (by decide +kernel) rfl : e_Sn 144 414 (o_i2l 415)) t_144_415 e_congr_i2l
noncomputable def n_144_411 : e_Y := u_callS 143 4 23 2 n_143_0 n_144_414
theorem t_144_411 : e_Sn 144 411 (e_un n_144_411) := u_callST rfl (s_callS (index := 339) hq_144 ho_144 hy_143 hp_143 hc_143 hi_143 hd_143 (List.mem_of_getElem? (i := 3079) (by decide +kernel)) hs_143 (by decide +kernel) rfl : e_Sn 144 411 (o_callS 143 4 2 414)) t_143_0 t_144_414
noncomputable def n_144_410 : e_Y := u_ld f_okI f_l3 n_144_411
theorem t_144_410 : e_Sn 144 410 (e_un n_144_410) := u_ldIT f_l3_eq (s_iload (i := .iload_n 3) (len := 1) hq_144 (by decide +kernel) rfl (.inr ⟨3, rfl, rfl, rfl⟩) : e_Sn 144 410 (o_load e_okI 3 411)) t_144_411
noncomputable def n_144_407 : e_Y := u_getf 13 6 (u_old (o_getf (e_f1 13 6) 410) n_144_410) n_144_410
theorem t_144_407 : e_Sn 144 407 (e_un n_144_407) := u_getfT (s_getf (C := er_13) (T := et_13) (N := 13) (ref := "PlateroomprinterModel$Machine") (index := 324) (ci := 13) (k := 6) hq_144 ho_144 ⟨rfl, by decide, ei_13, (List.mem_of_getElem? (i := 1910) (by decide +kernel)), .inl rfl⟩ (by decide +kernel) rfl : e_Sn 144 407 (o_getf (e_f1 13 6) 410)) t_144_410
noncomputable def n_144_404 : e_Y := u_getf 12 1 (u_old (o_getf (e_f1 12 1) 407) n_144_407) n_144_407
theorem t_144_404 : e_Sn 144 404 (e_un n_144_404) := u_getfT (s_getf (C := er_12) (T := et_12) (N := 5) (ref := "PlateroomprinterModel") (index := 10) (ci := 12) (k := 1) hq_144 ho_144 ⟨rfl, by decide, ei_12, (List.mem_of_getElem? (i := 1959) (by decide +kernel)), .inl rfl⟩ (by decide +kernel) rfl : e_Sn 144 404 (o_getf (e_f1 12 1) 407)) t_144_407
noncomputable def n_144_403 : e_Y := u_ld f_okA f_l0 n_144_404
theorem t_144_403 : e_Sn 144 403 (e_un n_144_403) := u_ldAT f_l0_eq (s_aload (i := .aload_n 0) (len := 1) hq_144 (by decide +kernel) rfl (.inr ⟨0, rfl, rfl, rfl⟩) : e_Sn 144 403 (o_load e_okR 0 404)) t_144_404
noncomputable def n_144_402 : e_Y := u_old (o_load e_okL 1 403) n_144_403
theorem t_144_402 : e_Sn 144 402 (e_un n_144_402) := u_oldT (s_lload (i := .lload_n 1) (len := 1) hq_144 (by decide +kernel) rfl (.inr ⟨1, rfl, rfl, rfl⟩) : e_Sn 144 402 (o_load e_okL 1 403)) t_144_403 e_congr_load
noncomputable def n_144_399 : e_Y := (u_at 376)
theorem t_144_399 : e_Sn 144 399 (e_un n_144_399) := u_gotoT (s_goto (off := (-23)) hq_144 (by decide +kernel) rfl : e_Sn 144 399 (o_goto 376)) u_atT
noncomputable def n_144_396 : e_Y := u_inc f_l4 f_s4 1 n_144_399
theorem t_144_396 : e_Sn 144 396 (e_un n_144_396) := u_incT f_l4_eq (fun _ _ _ => f_s4_eq) (s_iinc (zz := (1)) hq_144 (by decide +kernel) rfl (by decide +kernel) ⟨by decide, by decide⟩ : e_Sn 144 396 (o_iinc 4 1 399)) t_144_399
noncomputable def n_144_395 : e_Y := u_old (o_storeL 1 396) n_144_396
theorem t_144_395 : e_Sn 144 395 (e_un n_144_395) := u_oldT (s_lstore (i := .lstore_n 1) (len := 1) hq_144 (by decide +kernel) rfl (.inr ⟨1, rfl, rfl, rfl⟩) : e_Sn 144 395 (o_storeL 1 396)) t_144_396 (e_cg_storeL 1)
noncomputable def n_144_392 : e_Y := u_callS 133 4 23 2 n_133_0 n_144_395
theorem t_144_392 : e_Sn 144 392 (e_un n_144_392) := u_callST rfl (s_callS (index := 370) hq_144 ho_144 hy_133 hp_133 hc_133 hi_133 hd_133 (List.mem_of_getElem? (i := 3147) (by decide +kernel)) hs_133 (by decide +kernel) rfl : e_Sn 144 392 (o_callS 133 4 2 395)) t_133_0 t_144_395
noncomputable def n_144_391 : e_Y := u_old (o_i2l 392) n_144_392
theorem t_144_391 : e_Sn 144 391 (e_un n_144_391) := u_oldT (s_i2l hq_144 (by decide +kernel) rfl : e_Sn 144 391 (o_i2l 392)) t_144_392 e_congr_i2l
noncomputable def n_144_388 : e_Y := u_callV 12 190 5 24 3 n_190_0 n_144_391
theorem t_144_388 : e_Sn 144 388 (e_un n_144_388) := u_callVT rfl (s_callV (ci := 12) (C := er_12) (T := et_12) (N := 5) (index := 336) hq_144 ho_144 hy_190 hp_190 hc_190 hi_190 hd_190 (List.mem_of_getElem? (i := 3071) (by decide +kernel)) hs_190 (List.mem_of_getElem? (i := 133) (by decide +kernel)) rfl (by decide +kernel) rfl : e_Sn 144 388 (o_callV (e_s1 12 190 5) 3 391)) t_190_0 t_144_391
noncomputable def n_144_386 : e_Y := u_ld f_okI f_l4 n_144_388
theorem t_144_386 : e_Sn 144 386 (e_un n_144_386) := u_ldIT f_l4_eq (s_iload (i := .iload 4) (len := 2) hq_144 (by decide +kernel) rfl (.inl ⟨rfl, rfl⟩) : e_Sn 144 386 (o_load e_okI 4 388)) t_144_388
noncomputable def n_144_385 : e_Y := u_ld f_okI f_l3 n_144_386
theorem t_144_385 : e_Sn 144 385 (e_un n_144_385) := u_ldIT f_l3_eq (s_iload (i := .iload_n 3) (len := 1) hq_144 (by decide +kernel) rfl (.inr ⟨3, rfl, rfl, rfl⟩) : e_Sn 144 385 (o_load e_okI 3 386)) t_144_386
noncomputable def n_144_384 : e_Y := u_ld f_okA f_l0 n_144_385
theorem t_144_384 : e_Sn 144 384 (e_un n_144_384) := u_ldAT f_l0_eq (s_aload (i := .aload_n 0) (len := 1) hq_144 (by decide +kernel) rfl (.inr ⟨0, rfl, rfl, rfl⟩) : e_Sn 144 384 (o_load e_okR 0 385)) t_144_385
noncomputable def n_144_383 : e_Y := u_old (o_load e_okL 1 384) n_144_384
theorem t_144_383 : e_Sn 144 383 (e_un n_144_383) := u_oldT (s_lload (i := .lload_n 1) (len := 1) hq_144 (by decide +kernel) rfl (.inr ⟨1, rfl, rfl, rfl⟩) : e_Sn 144 383 (o_load e_okL 1 384)) t_144_384 e_congr_load
noncomputable def n_144_380 : e_Y := u_jmp y_ge (u_old2 (o_clt 383 402) 383 n_144_383 n_144_402) n_144_383 n_144_402
theorem t_144_380 : e_Sn 144 380 (e_un n_144_380) := u_cltT rfl (s_cge (off := (22)) hq_144 (by decide +kernel) rfl rfl : e_Sn 144 380 (o_clt 383 402)) t_144_383 t_144_402
noncomputable def n_144_378 : e_Y := u_push (.inl 2147483680) n_144_380
theorem t_144_378 : e_Sn 144 378 (e_un n_144_378) := u_pushT (s_bipush (n := (32)) hq_144 (by decide +kernel) rfl ⟨by decide +kernel, by decide +kernel⟩ : e_Sn 144 378 (o_push (.inl 2147483680) 380)) t_144_380
noncomputable def n_144_376 : e_Y := u_ld f_okI f_l4 n_144_378
theorem t_144_376 : e_Sn 144 376 (e_un n_144_376) := u_ldIT f_l4_eq (s_iload (i := .iload 4) (len := 2) hq_144 (by decide +kernel) rfl (.inl ⟨rfl, rfl⟩) : e_Sn 144 376 (o_load e_okI 4 378)) t_144_378
noncomputable def n_144_374 : e_Y := u_st f_okI f_s4 n_144_376
theorem t_144_374 : e_Sn 144 374 (e_un n_144_374) := u_stIT (fun _ _ _ => f_s4_eq) (s_istore (i := .istore 4) (len := 2) hq_144 (by decide +kernel) rfl (.inl ⟨rfl, rfl⟩) : e_Sn 144 374 (o_store e_okI 4 376)) t_144_376
noncomputable def n_144_373 : e_Y := u_push (.inl 2147483648) n_144_374
theorem t_144_373 : e_Sn 144 373 (e_un n_144_373) := u_pushT (s_iconst (n := (0)) hq_144 (by decide +kernel) rfl ⟨by decide +kernel, by decide +kernel⟩ : e_Sn 144 373 (o_push (.inl 2147483648) 374)) t_144_374
noncomputable def n_144_370 : e_Y := u_jmp y_ge (u_old2 (o_clt 373 437) 373 n_144_373 n_144_437) n_144_373 n_144_437
theorem t_144_370 : e_Sn 144 370 (e_un n_144_370) := u_cltT rfl (s_cge (off := (67)) hq_144 (by decide +kernel) rfl rfl : e_Sn 144 370 (o_clt 373 437)) t_144_373 t_144_437
noncomputable def n_144_369 : e_Y := u_push (.inl 2147483652) n_144_370
theorem t_144_369 : e_Sn 144 369 (e_un n_144_369) := u_pushT (s_iconst (n := (4)) hq_144 (by decide +kernel) rfl ⟨by decide +kernel, by decide +kernel⟩ : e_Sn 144 369 (o_push (.inl 2147483652) 370)) t_144_370
noncomputable def n_144_368 : e_Y := u_ld f_okI f_l3 n_144_369
theorem t_144_368 : e_Sn 144 368 (e_un n_144_368) := u_ldIT f_l3_eq (s_iload (i := .iload_n 3) (len := 1) hq_144 (by decide +kernel) rfl (.inr ⟨3, rfl, rfl, rfl⟩) : e_Sn 144 368 (o_load e_okI 3 369)) t_144_369
noncomputable def n_144_367 : e_Y := u_st f_okI f_s3 n_144_368
theorem t_144_367 : e_Sn 144 367 (e_un n_144_367) := u_stIT (fun _ _ _ => f_s3_eq) (s_istore (i := .istore_n 3) (len := 1) hq_144 (by decide +kernel) rfl (.inr ⟨3, rfl, rfl, rfl⟩) : e_Sn 144 367 (o_store e_okI 3 368)) t_144_368
noncomputable def n_144_366 : e_Y := u_push (.inl 2147483648) n_144_367
theorem t_144_366 : e_Sn 144 366 (e_un n_144_366) := u_pushT (s_iconst (n := (0)) hq_144 (by decide +kernel) rfl ⟨by decide +kernel, by decide +kernel⟩ : e_Sn 144 366 (o_push (.inl 2147483648) 367)) t_144_367
noncomputable def n_144_328 : e_Y := u_jmp y_ge (u_old2 (o_clt 331 366) 331 (u_at 331) n_144_366) (u_at 331) n_144_366
theorem t_144_328 : e_Sn 144 328 (e_un n_144_328) := u_cltT rfl (s_cge (off := (38)) hq_144 (by decide +kernel) rfl rfl : e_Sn 144 328 (o_clt 331 366)) u_atT t_144_366
noncomputable def n_144_325 : e_Y := u_callV 19 236 1 20 1 n_236_0 n_144_328
theorem t_144_325 : e_Sn 144 325 (e_un n_144_325) := u_callVT rfl (s_callV (ci := 19) (C := er_19) (T := et_19) (N := 3) (index := 74) hq_144 ho_144 hy_236 hp_236 hc_236 hi_236 hd_236 (List.mem_of_getElem? (i := 2000) (by decide +kernel)) hs_236 (List.mem_of_getElem? (i := 2002) (by decide +kernel)) rfl (by decide +kernel) rfl : e_Sn 144 325 (o_callV (e_s1 19 236 1) 1 328)) t_236_0 t_144_328
noncomputable def n_144_322 : e_Y := u_getf 13 5 (u_old (o_getf (e_f1 13 5) 325) n_144_325) n_144_325
theorem t_144_322 : e_Sn 144 322 (e_un n_144_322) := u_getfT (s_getf (C := er_13) (T := et_13) (N := 13) (ref := "PlateroomprinterModel$Machine") (index := 311) (ci := 13) (k := 5) hq_144 ho_144 ⟨rfl, by decide, ei_13, (List.mem_of_getElem? (i := 1907) (by decide +kernel)), .inl rfl⟩ (by decide +kernel) rfl : e_Sn 144 322 (o_getf (e_f1 13 5) 325)) t_144_325
noncomputable def n_144_319 : e_Y := u_getf 12 1 (u_old (o_getf (e_f1 12 1) 322) n_144_322) n_144_322
theorem t_144_319 : e_Sn 144 319 (e_un n_144_319) := u_getfT (s_getf (C := er_12) (T := et_12) (N := 5) (ref := "PlateroomprinterModel") (index := 10) (ci := 12) (k := 1) hq_144 ho_144 ⟨rfl, by decide, ei_12, (List.mem_of_getElem? (i := 1959) (by decide +kernel)), .inl rfl⟩ (by decide +kernel) rfl : e_Sn 144 319 (o_getf (e_f1 12 1) 322)) t_144_322
noncomputable def n_144_318 : e_Y := u_ld f_okA f_l0 n_144_319
theorem t_144_318 : e_Sn 144 318 (e_un n_144_318) := u_ldAT f_l0_eq (s_aload (i := .aload_n 0) (len := 1) hq_144 (by decide +kernel) rfl (.inr ⟨0, rfl, rfl, rfl⟩) : e_Sn 144 318 (o_load e_okR 0 319)) t_144_319
noncomputable def n_144_317 : e_Y := u_ld f_okI f_l3 n_144_318
theorem t_144_317 : e_Sn 144 317 (e_un n_144_317) := u_ldIT f_l3_eq (s_iload (i := .iload_n 3) (len := 1) hq_144 (by decide +kernel) rfl (.inr ⟨3, rfl, rfl, rfl⟩) : e_Sn 144 317 (o_load e_okI 3 318)) t_144_318
noncomputable def n_144_316 : e_Y := u_st f_okI f_s3 n_144_317
theorem t_144_316 : e_Sn 144 316 (e_un n_144_316) := u_stIT (fun _ _ _ => f_s3_eq) (s_istore (i := .istore_n 3) (len := 1) hq_144 (by decide +kernel) rfl (.inr ⟨3, rfl, rfl, rfl⟩) : e_Sn 144 316 (o_store e_okI 3 317)) t_144_317
noncomputable def n_144_315 : e_Y := u_push (.inl 2147483648) n_144_316
theorem t_144_315 : e_Sn 144 315 (e_un n_144_315) := u_pushT (s_iconst (n := (0)) hq_144 (by decide +kernel) rfl ⟨by decide +kernel, by decide +kernel⟩ : e_Sn 144 315 (o_push (.inl 2147483648) 316)) t_144_316
noncomputable def n_144_314 : e_Y := u_old (o_storeL 1 315) n_144_315
theorem t_144_314 : e_Sn 144 314 (e_un n_144_314) := u_oldT (s_lstore (i := .lstore_n 1) (len := 1) hq_144 (by decide +kernel) rfl (.inr ⟨1, rfl, rfl, rfl⟩) : e_Sn 144 314 (o_storeL 1 315)) t_144_315 (e_cg_storeL 1)
noncomputable def n_144_311 : e_Y := u_callS 133 4 23 2 n_133_0 n_144_314
theorem t_144_311 : e_Sn 144 311 (e_un n_144_311) := u_callST rfl (s_callS (index := 370) hq_144 ho_144 hy_133 hp_133 hc_133 hi_133 hd_133 (List.mem_of_getElem? (i := 3147) (by decide +kernel)) hs_133 (by decide +kernel) rfl : e_Sn 144 311 (o_callS 133 4 2 314)) t_133_0 t_144_314
noncomputable def n_144_310 : e_Y := u_old (o_i2l 311) n_144_311
theorem t_144_310 : e_Sn 144 310 (e_un n_144_310) := u_oldT (s_i2l hq_144 (by decide +kernel) rfl : e_Sn 144 310 (o_i2l 311)) t_144_311 e_congr_i2l
noncomputable def n_144_307 : e_Y := u_callV 19 236 1 20 1 n_236_0 n_144_310
theorem t_144_307 : e_Sn 144 307 (e_un n_144_307) := u_callVT rfl (s_callV (ci := 19) (C := er_19) (T := et_19) (N := 3) (index := 74) hq_144 ho_144 hy_236 hp_236 hc_236 hi_236 hd_236 (List.mem_of_getElem? (i := 2000) (by decide +kernel)) hs_236 (List.mem_of_getElem? (i := 2002) (by decide +kernel)) rfl (by decide +kernel) rfl : e_Sn 144 307 (o_callV (e_s1 19 236 1) 1 310)) t_236_0 t_144_310
noncomputable def n_144_304 : e_Y := u_getf 13 5 (u_old (o_getf (e_f1 13 5) 307) n_144_307) n_144_307
theorem t_144_304 : e_Sn 144 304 (e_un n_144_304) := u_getfT (s_getf (C := er_13) (T := et_13) (N := 13) (ref := "PlateroomprinterModel$Machine") (index := 311) (ci := 13) (k := 5) hq_144 ho_144 ⟨rfl, by decide, ei_13, (List.mem_of_getElem? (i := 1907) (by decide +kernel)), .inl rfl⟩ (by decide +kernel) rfl : e_Sn 144 304 (o_getf (e_f1 13 5) 307)) t_144_307
noncomputable def n_144_301 : e_Y := u_getf 12 1 (u_old (o_getf (e_f1 12 1) 304) n_144_304) n_144_304
theorem t_144_301 : e_Sn 144 301 (e_un n_144_301) := u_getfT (s_getf (C := er_12) (T := et_12) (N := 5) (ref := "PlateroomprinterModel") (index := 10) (ci := 12) (k := 1) hq_144 ho_144 ⟨rfl, by decide, ei_12, (List.mem_of_getElem? (i := 1959) (by decide +kernel)), .inl rfl⟩ (by decide +kernel) rfl : e_Sn 144 301 (o_getf (e_f1 12 1) 304)) t_144_304
noncomputable def n_144_300 : e_Y := u_ld f_okA f_l0 n_144_301
theorem t_144_300 : e_Sn 144 300 (e_un n_144_300) := u_ldAT f_l0_eq (s_aload (i := .aload_n 0) (len := 1) hq_144 (by decide +kernel) rfl (.inr ⟨0, rfl, rfl, rfl⟩) : e_Sn 144 300 (o_load e_okR 0 301)) t_144_301
noncomputable def n_144_297 : e_Y := u_callV 12 134 8 27 2 n_134_0 n_144_300
theorem t_144_297 : e_Sn 144 297 (e_un n_144_297) := u_callVT rfl (s_callV (ci := 12) (C := er_12) (T := et_12) (N := 5) (index := 387) hq_144 ho_144 hy_134 hp_134 hc_134 hi_134 hd_134 (List.mem_of_getElem? (i := 3155) (by decide +kernel)) hs_134 (List.mem_of_getElem? (i := 136) (by decide +kernel)) rfl (by decide +kernel) rfl : e_Sn 144 297 (o_callV (e_s1 12 134 8) 2 300)) t_134_0 t_144_300
noncomputable def n_144_296 : e_Y := u_old (o_load e_okL 1 297) n_144_297
theorem t_144_296 : e_Sn 144 296 (e_un n_144_296) := u_oldT (s_lload (i := .lload_n 1) (len := 1) hq_144 (by decide +kernel) rfl (.inr ⟨1, rfl, rfl, rfl⟩) : e_Sn 144 296 (o_load e_okL 1 297)) t_144_297 e_congr_load
noncomputable def n_144_295 : e_Y := u_ld f_okA f_l0 n_144_296
theorem t_144_295 : e_Sn 144 295 (e_un n_144_295) := u_ldAT f_l0_eq (s_aload (i := .aload_n 0) (len := 1) hq_144 (by decide +kernel) rfl (.inr ⟨0, rfl, rfl, rfl⟩) : e_Sn 144 295 (o_load e_okR 0 296)) t_144_296
noncomputable def n_144_292 : e_Y := (u_at 268)
theorem t_144_292 : e_Sn 144 292 (e_un n_144_292) := u_gotoT (s_goto (off := (-24)) hq_144 (by decide +kernel) rfl : e_Sn 144 292 (o_goto 268)) u_atT
noncomputable def n_144_289 : e_Y := u_inc f_l5 f_s5 1 n_144_292
theorem t_144_289 : e_Sn 144 289 (e_un n_144_289) := u_incT f_l5_eq (fun _ _ _ => f_s5_eq) (s_iinc (zz := (1)) hq_144 (by decide +kernel) rfl (by decide +kernel) ⟨by decide, by decide⟩ : e_Sn 144 289 (o_iinc 5 1 292)) t_144_292
noncomputable def n_144_288 : e_Y := u_old (o_storeL 1 289) n_144_289
theorem t_144_288 : e_Sn 144 288 (e_un n_144_288) := u_oldT (s_lstore (i := .lstore_n 1) (len := 1) hq_144 (by decide +kernel) rfl (.inr ⟨1, rfl, rfl, rfl⟩) : e_Sn 144 288 (o_storeL 1 289)) t_144_289 (e_cg_storeL 1)
noncomputable def n_144_285 : e_Y := u_callS 133 4 23 2 n_133_0 n_144_288
theorem t_144_285 : e_Sn 144 285 (e_un n_144_285) := u_callST rfl (s_callS (index := 370) hq_144 ho_144 hy_133 hp_133 hc_133 hi_133 hd_133 (List.mem_of_getElem? (i := 3147) (by decide +kernel)) hs_133 (by decide +kernel) rfl : e_Sn 144 285 (o_callS 133 4 2 288)) t_133_0 t_144_288
noncomputable def n_144_284 : e_Y := u_old (o_i2l 285) n_144_285
theorem t_144_284 : e_Sn 144 284 (e_un n_144_284) := u_oldT (s_i2l hq_144 (by decide +kernel) rfl : e_Sn 144 284 (o_i2l 285)) t_144_285 e_congr_i2l
noncomputable def n_144_282 : e_Y := u_ld f_okI f_l6 n_144_284
theorem t_144_282 : e_Sn 144 282 (e_un n_144_282) := u_ldIT f_l6_eq (s_iload (i := .iload 6) (len := 2) hq_144 (by decide +kernel) rfl (.inl ⟨rfl, rfl⟩) : e_Sn 144 282 (o_load e_okI 6 284)) t_144_284
noncomputable def n_144_281 : e_Y := u_old (o_load e_okL 1 282) n_144_282
theorem t_144_281 : e_Sn 144 281 (e_un n_144_281) := u_oldT (s_lload (i := .lload_n 1) (len := 1) hq_144 (by decide +kernel) rfl (.inr ⟨1, rfl, rfl, rfl⟩) : e_Sn 144 281 (o_load e_okL 1 282)) t_144_282 e_congr_load
noncomputable def n_144_279 : e_Y := u_st f_okI f_s6 n_144_281
theorem t_144_279 : e_Sn 144 279 (e_un n_144_279) := u_stIT (fun _ _ _ => f_s6_eq) (s_istore (i := .istore 6) (len := 2) hq_144 (by decide +kernel) rfl (.inl ⟨rfl, rfl⟩) : e_Sn 144 279 (o_store e_okI 6 281)) t_144_281
noncomputable def n_144_278 : e_Y := u_ald 0 (u_old (o_ald e_fcs 279) n_144_279) n_144_279
theorem t_144_278 : e_Sn 144 278 (e_un n_144_278) := u_aldT (s_iald hq_144 (by decide +kernel) rfl : e_Sn 144 278 (o_ald e_fcs 279)) t_144_279
noncomputable def n_144_276 : e_Y := u_ld f_okI f_l5 n_144_278
theorem t_144_276 : e_Sn 144 276 (e_un n_144_276) := u_ldIT f_l5_eq (s_iload (i := .iload 5) (len := 2) hq_144 (by decide +kernel) rfl (.inl ⟨rfl, rfl⟩) : e_Sn 144 276 (o_load e_okI 5 278)) t_144_278
noncomputable def n_144_275 : e_Y := u_ld f_okA f_l3 n_144_276
theorem t_144_275 : e_Sn 144 275 (e_un n_144_275) := u_ldAT f_l3_eq (s_aload (i := .aload_n 3) (len := 1) hq_144 (by decide +kernel) rfl (.inr ⟨3, rfl, rfl, rfl⟩) : e_Sn 144 275 (o_load e_okR 3 276)) t_144_276
noncomputable def n_144_272 : e_Y := u_jmp y_ge (u_old2 (o_clt 275 295) 275 n_144_275 n_144_295) n_144_275 n_144_295
theorem t_144_272 : e_Sn 144 272 (e_un n_144_272) := u_cltT rfl (s_cge (off := (23)) hq_144 (by decide +kernel) rfl rfl : e_Sn 144 272 (o_clt 275 295)) t_144_275 t_144_295
noncomputable def n_144_270 : e_Y := u_ld f_okI f_l4 n_144_272
theorem t_144_270 : e_Sn 144 270 (e_un n_144_270) := u_ldIT f_l4_eq (s_iload (i := .iload 4) (len := 2) hq_144 (by decide +kernel) rfl (.inl ⟨rfl, rfl⟩) : e_Sn 144 270 (o_load e_okI 4 272)) t_144_272
noncomputable def n_144_268 : e_Y := u_ld f_okI f_l5 n_144_270
theorem t_144_268 : e_Sn 144 268 (e_un n_144_268) := u_ldIT f_l5_eq (s_iload (i := .iload 5) (len := 2) hq_144 (by decide +kernel) rfl (.inl ⟨rfl, rfl⟩) : e_Sn 144 268 (o_load e_okI 5 270)) t_144_270
noncomputable def n_144_266 : e_Y := u_st f_okI f_s5 n_144_268
theorem t_144_266 : e_Sn 144 266 (e_un n_144_266) := u_stIT (fun _ _ _ => f_s5_eq) (s_istore (i := .istore 5) (len := 2) hq_144 (by decide +kernel) rfl (.inl ⟨rfl, rfl⟩) : e_Sn 144 266 (o_store e_okI 5 268)) t_144_268
noncomputable def n_144_265 : e_Y := u_push (.inl 2147483648) n_144_266
theorem t_144_265 : e_Sn 144 265 (e_un n_144_265) := u_pushT (s_iconst (n := (0)) hq_144 (by decide +kernel) rfl ⟨by decide +kernel, by decide +kernel⟩ : e_Sn 144 265 (o_push (.inl 2147483648) 266)) t_144_266
noncomputable def n_144_263 : e_Y := u_st f_okI f_s4 n_144_265
theorem t_144_263 : e_Sn 144 263 (e_un n_144_263) := u_stIT (fun _ _ _ => f_s4_eq) (s_istore (i := .istore 4) (len := 2) hq_144 (by decide +kernel) rfl (.inl ⟨rfl, rfl⟩) : e_Sn 144 263 (o_store e_okI 4 265)) t_144_265
noncomputable def n_144_262 : e_Y := u_old (o_alen e_fcs 263) n_144_263
theorem t_144_262 : e_Sn 144 262 (e_un n_144_262) := u_oldT (s_alen hq_144 (by decide +kernel) rfl : e_Sn 144 262 (o_alen e_fcs 263)) t_144_263 (e_cg_alen e_fcs)
noncomputable def n_144_261 : e_Y := u_ld f_okA f_l3 n_144_262
theorem t_144_261 : e_Sn 144 261 (e_un n_144_261) := u_ldAT f_l3_eq (s_aload (i := .aload_n 3) (len := 1) hq_144 (by decide +kernel) rfl (.inr ⟨3, rfl, rfl, rfl⟩) : e_Sn 144 261 (o_load e_okR 3 262)) t_144_262
noncomputable def n_144_260 : e_Y := u_st f_okA f_s3 n_144_261
theorem t_144_260 : e_Sn 144 260 (e_un n_144_260) := u_stAT (fun _ _ _ => f_s3_eq) (s_astore (i := .astore_n 3) (len := 1) hq_144 (by decide +kernel) rfl (.inr ⟨3, rfl, rfl, rfl⟩) : e_Sn 144 260 (o_store e_okR 3 261)) t_144_261
noncomputable def n_144_257 : e_Y := u_getf 13 12 (u_old (o_getf (e_f1 13 12) 260) n_144_260) n_144_260
theorem t_144_257 : e_Sn 144 257 (e_un n_144_257) := u_getfT (s_getf (C := er_13) (T := et_13) (N := 13) (ref := "PlateroomprinterModel$Machine") (index := 215) (ci := 13) (k := 12) hq_144 ho_144 ⟨rfl, by decide, ei_13, (List.mem_of_getElem? (i := 1928) (by decide +kernel)), .inl rfl⟩ (by decide +kernel) rfl : e_Sn 144 257 (o_getf (e_f1 13 12) 260)) t_144_260
noncomputable def n_144_254 : e_Y := u_getf 12 1 (u_old (o_getf (e_f1 12 1) 257) n_144_257) n_144_257
theorem t_144_254 : e_Sn 144 254 (e_un n_144_254) := u_getfT (s_getf (C := er_12) (T := et_12) (N := 5) (ref := "PlateroomprinterModel") (index := 10) (ci := 12) (k := 1) hq_144 ho_144 ⟨rfl, by decide, ei_12, (List.mem_of_getElem? (i := 1959) (by decide +kernel)), .inl rfl⟩ (by decide +kernel) rfl : e_Sn 144 254 (o_getf (e_f1 12 1) 257)) t_144_257
noncomputable def n_144_253 : e_Y := u_ld f_okA f_l0 n_144_254
theorem t_144_253 : e_Sn 144 253 (e_un n_144_253) := u_ldAT f_l0_eq (s_aload (i := .aload_n 0) (len := 1) hq_144 (by decide +kernel) rfl (.inr ⟨0, rfl, rfl, rfl⟩) : e_Sn 144 253 (o_load e_okR 0 254)) t_144_254
noncomputable def n_144_250 : e_Y := (u_at 231)
theorem t_144_250 : e_Sn 144 250 (e_un n_144_250) := u_gotoT (s_goto (off := (-19)) hq_144 (by decide +kernel) rfl : e_Sn 144 250 (o_goto 231)) u_atT
noncomputable def n_144_247 : e_Y := u_inc f_l3 f_s3 1 n_144_250
theorem t_144_247 : e_Sn 144 247 (e_un n_144_247) := u_incT f_l3_eq (fun _ _ _ => f_s3_eq) (s_iinc (zz := (1)) hq_144 (by decide +kernel) rfl (by decide +kernel) ⟨by decide, by decide⟩ : e_Sn 144 247 (o_iinc 3 1 250)) t_144_250
noncomputable def n_144_246 : e_Y := u_old (o_storeL 1 247) n_144_247
theorem t_144_246 : e_Sn 144 246 (e_un n_144_246) := u_oldT (s_lstore (i := .lstore_n 1) (len := 1) hq_144 (by decide +kernel) rfl (.inr ⟨1, rfl, rfl, rfl⟩) : e_Sn 144 246 (o_storeL 1 247)) t_144_247 (e_cg_storeL 1)
noncomputable def n_144_243 : e_Y := u_callS 133 4 23 2 n_133_0 n_144_246
theorem t_144_243 : e_Sn 144 243 (e_un n_144_243) := u_callST rfl (s_callS (index := 370) hq_144 ho_144 hy_133 hp_133 hc_133 hi_133 hd_133 (List.mem_of_getElem? (i := 3147) (by decide +kernel)) hs_133 (by decide +kernel) rfl : e_Sn 144 243 (o_callS 133 4 2 246)) t_133_0 t_144_246
noncomputable def n_144_242 : e_Y := u_old (o_i2l 243) n_144_243
theorem t_144_242 : e_Sn 144 242 (e_un n_144_242) := u_oldT (s_i2l hq_144 (by decide +kernel) rfl : e_Sn 144 242 (o_i2l 243)) t_144_243 e_congr_i2l
noncomputable def n_144_239 : e_Y := u_callV 12 141 2 21 2 n_141_0 n_144_242
theorem t_144_239 : e_Sn 144 239 (e_un n_144_239) := u_callVT rfl (s_callV (ci := 12) (C := er_12) (T := et_12) (N := 5) (index := 212) hq_144 ho_144 hy_141 hp_141 hc_141 hi_141 hd_141 (List.mem_of_getElem? (i := 2941) (by decide +kernel)) hs_141 (List.mem_of_getElem? (i := 123) (by decide +kernel)) rfl (by decide +kernel) rfl : e_Sn 144 239 (o_callV (e_s1 12 141 2) 2 242)) t_141_0 t_144_242
noncomputable def n_144_238 : e_Y := u_ld f_okI f_l3 n_144_239
theorem t_144_238 : e_Sn 144 238 (e_un n_144_238) := u_ldIT f_l3_eq (s_iload (i := .iload_n 3) (len := 1) hq_144 (by decide +kernel) rfl (.inr ⟨3, rfl, rfl, rfl⟩) : e_Sn 144 238 (o_load e_okI 3 239)) t_144_239
noncomputable def n_144_237 : e_Y := u_ld f_okA f_l0 n_144_238
theorem t_144_237 : e_Sn 144 237 (e_un n_144_237) := u_ldAT f_l0_eq (s_aload (i := .aload_n 0) (len := 1) hq_144 (by decide +kernel) rfl (.inr ⟨0, rfl, rfl, rfl⟩) : e_Sn 144 237 (o_load e_okR 0 238)) t_144_238
noncomputable def n_144_236 : e_Y := u_old (o_load e_okL 1 237) n_144_237
theorem t_144_236 : e_Sn 144 236 (e_un n_144_236) := u_oldT (s_lload (i := .lload_n 1) (len := 1) hq_144 (by decide +kernel) rfl (.inr ⟨1, rfl, rfl, rfl⟩) : e_Sn 144 236 (o_load e_okL 1 237)) t_144_237 e_congr_load
noncomputable def n_144_233 : e_Y := u_jmp y_ge (u_old2 (o_clt 236 253) 236 n_144_236 n_144_253) n_144_236 n_144_253
theorem t_144_233 : e_Sn 144 233 (e_un n_144_233) := u_cltT rfl (s_cge (off := (20)) hq_144 (by decide +kernel) rfl rfl : e_Sn 144 233 (o_clt 236 253)) t_144_236 t_144_253
noncomputable def n_144_232 : e_Y := u_push (.inl 2147483651) n_144_233
theorem t_144_232 : e_Sn 144 232 (e_un n_144_232) := u_pushT (s_iconst (n := (3)) hq_144 (by decide +kernel) rfl ⟨by decide +kernel, by decide +kernel⟩ : e_Sn 144 232 (o_push (.inl 2147483651) 233)) t_144_233
noncomputable def n_144_231 : e_Y := u_ld f_okI f_l3 n_144_232
theorem t_144_231 : e_Sn 144 231 (e_un n_144_231) := u_ldIT f_l3_eq (s_iload (i := .iload_n 3) (len := 1) hq_144 (by decide +kernel) rfl (.inr ⟨3, rfl, rfl, rfl⟩) : e_Sn 144 231 (o_load e_okI 3 232)) t_144_232
noncomputable def n_144_230 : e_Y := u_st f_okI f_s3 n_144_231
theorem t_144_230 : e_Sn 144 230 (e_un n_144_230) := u_stIT (fun _ _ _ => f_s3_eq) (s_istore (i := .istore_n 3) (len := 1) hq_144 (by decide +kernel) rfl (.inr ⟨3, rfl, rfl, rfl⟩) : e_Sn 144 230 (o_store e_okI 3 231)) t_144_231
noncomputable def n_144_229 : e_Y := u_push (.inl 2147483648) n_144_230
theorem t_144_229 : e_Sn 144 229 (e_un n_144_229) := u_pushT (s_iconst (n := (0)) hq_144 (by decide +kernel) rfl ⟨by decide +kernel, by decide +kernel⟩ : e_Sn 144 229 (o_push (.inl 2147483648) 230)) t_144_230
noncomputable def n_144_226 : e_Y := (u_at 195)
theorem t_144_226 : e_Sn 144 226 (e_un n_144_226) := u_gotoT (s_goto (off := (-31)) hq_144 (by decide +kernel) rfl : e_Sn 144 226 (o_goto 195)) u_atT
noncomputable def n_144_223 : e_Y := u_inc f_l3 f_s3 1 n_144_226
theorem t_144_223 : e_Sn 144 223 (e_un n_144_223) := u_incT f_l3_eq (fun _ _ _ => f_s3_eq) (s_iinc (zz := (1)) hq_144 (by decide +kernel) rfl (by decide +kernel) ⟨by decide, by decide⟩ : e_Sn 144 223 (o_iinc 3 1 226)) t_144_226
noncomputable def n_144_222 : e_Y := u_old (o_storeL 1 223) n_144_223
theorem t_144_222 : e_Sn 144 222 (e_un n_144_222) := u_oldT (s_lstore (i := .lstore_n 1) (len := 1) hq_144 (by decide +kernel) rfl (.inr ⟨1, rfl, rfl, rfl⟩) : e_Sn 144 222 (o_storeL 1 223)) t_144_223 (e_cg_storeL 1)
noncomputable def n_144_219 : e_Y := u_callS 133 4 23 2 n_133_0 n_144_222
theorem t_144_219 : e_Sn 144 219 (e_un n_144_219) := u_callST rfl (s_callS (index := 370) hq_144 ho_144 hy_133 hp_133 hc_133 hi_133 hd_133 (List.mem_of_getElem? (i := 3147) (by decide +kernel)) hs_133 (by decide +kernel) rfl : e_Sn 144 219 (o_callS 133 4 2 222)) t_133_0 t_144_222
noncomputable def n_144_218 : e_Y := u_old (o_i2l 219) n_144_219
theorem t_144_218 : e_Sn 144 218 (e_un n_144_218) := u_oldT (s_i2l hq_144 (by decide +kernel) rfl : e_Sn 144 218 (o_i2l 219)) t_144_219 e_congr_i2l
noncomputable def n_144_215 : e_Y := u_callV 12 179 3 22 3 n_179_0 n_144_218
theorem t_144_215 : e_Sn 144 215 (e_un n_144_215) := u_callVT rfl (s_callV (ci := 12) (C := er_12) (T := et_12) (N := 5) (index := 199) hq_144 ho_144 hy_179 hp_179 hc_179 hi_179 hd_179 (List.mem_of_getElem? (i := 2933) (by decide +kernel)) hs_179 (List.mem_of_getElem? (i := 122) (by decide +kernel)) rfl (by decide +kernel) rfl : e_Sn 144 215 (o_callV (e_s1 12 179 3) 3 218)) t_179_0 t_144_218
noncomputable def n_144_214 : e_Y := u_push (.inl 2147483649) n_144_215
theorem t_144_214 : e_Sn 144 214 (e_un n_144_214) := u_pushT (s_iconst (n := (1)) hq_144 (by decide +kernel) rfl ⟨by decide +kernel, by decide +kernel⟩ : e_Sn 144 214 (o_push (.inl 2147483649) 215)) t_144_215
noncomputable def n_144_213 : e_Y := u_ld f_okI f_l3 n_144_214
theorem t_144_213 : e_Sn 144 213 (e_un n_144_213) := u_ldIT f_l3_eq (s_iload (i := .iload_n 3) (len := 1) hq_144 (by decide +kernel) rfl (.inr ⟨3, rfl, rfl, rfl⟩) : e_Sn 144 213 (o_load e_okI 3 214)) t_144_214
noncomputable def n_144_212 : e_Y := u_ld f_okA f_l0 n_144_213
theorem t_144_212 : e_Sn 144 212 (e_un n_144_212) := u_ldAT f_l0_eq (s_aload (i := .aload_n 0) (len := 1) hq_144 (by decide +kernel) rfl (.inr ⟨0, rfl, rfl, rfl⟩) : e_Sn 144 212 (o_load e_okR 0 213)) t_144_213
noncomputable def n_144_209 : e_Y := u_callS 133 4 23 2 n_133_0 n_144_212
theorem t_144_209 : e_Sn 144 209 (e_un n_144_209) := u_callST rfl (s_callS (index := 370) hq_144 ho_144 hy_133 hp_133 hc_133 hi_133 hd_133 (List.mem_of_getElem? (i := 3147) (by decide +kernel)) hs_133 (by decide +kernel) rfl : e_Sn 144 209 (o_callS 133 4 2 212)) t_133_0 t_144_212
noncomputable def n_144_208 : e_Y := u_old (o_i2l 209) n_144_209
theorem t_144_208 : e_Sn 144 208 (e_un n_144_208) := u_oldT (s_i2l hq_144 (by decide +kernel) rfl : e_Sn 144 208 (o_i2l 209)) t_144_209 e_congr_i2l
noncomputable def n_144_205 : e_Y := u_callV 12 179 3 22 3 n_179_0 n_144_208
theorem t_144_205 : e_Sn 144 205 (e_un n_144_205) := u_callVT rfl (s_callV (ci := 12) (C := er_12) (T := et_12) (N := 5) (index := 199) hq_144 ho_144 hy_179 hp_179 hc_179 hi_179 hd_179 (List.mem_of_getElem? (i := 2933) (by decide +kernel)) hs_179 (List.mem_of_getElem? (i := 122) (by decide +kernel)) rfl (by decide +kernel) rfl : e_Sn 144 205 (o_callV (e_s1 12 179 3) 3 208)) t_179_0 t_144_208
noncomputable def n_144_204 : e_Y := u_push (.inl 2147483648) n_144_205
theorem t_144_204 : e_Sn 144 204 (e_un n_144_204) := u_pushT (s_iconst (n := (0)) hq_144 (by decide +kernel) rfl ⟨by decide +kernel, by decide +kernel⟩ : e_Sn 144 204 (o_push (.inl 2147483648) 205)) t_144_205
noncomputable def n_144_203 : e_Y := u_ld f_okI f_l3 n_144_204
theorem t_144_203 : e_Sn 144 203 (e_un n_144_203) := u_ldIT f_l3_eq (s_iload (i := .iload_n 3) (len := 1) hq_144 (by decide +kernel) rfl (.inr ⟨3, rfl, rfl, rfl⟩) : e_Sn 144 203 (o_load e_okI 3 204)) t_144_204
noncomputable def n_144_202 : e_Y := u_ld f_okA f_l0 n_144_203
theorem t_144_202 : e_Sn 144 202 (e_un n_144_202) := u_ldAT f_l0_eq (s_aload (i := .aload_n 0) (len := 1) hq_144 (by decide +kernel) rfl (.inr ⟨0, rfl, rfl, rfl⟩) : e_Sn 144 202 (o_load e_okR 0 203)) t_144_203
noncomputable def n_144_201 : e_Y := u_old (o_load e_okL 1 202) n_144_202
theorem t_144_201 : e_Sn 144 201 (e_un n_144_201) := u_oldT (s_lload (i := .lload_n 1) (len := 1) hq_144 (by decide +kernel) rfl (.inr ⟨1, rfl, rfl, rfl⟩) : e_Sn 144 201 (o_load e_okL 1 202)) t_144_202 e_congr_load
noncomputable def n_144_198 : e_Y := u_jmp y_ge (u_old2 (o_clt 201 229) 201 n_144_201 n_144_229) n_144_201 n_144_229
theorem t_144_198 : e_Sn 144 198 (e_un n_144_198) := u_cltT rfl (s_cge (off := (31)) hq_144 (by decide +kernel) rfl rfl : e_Sn 144 198 (o_clt 201 229)) t_144_201 t_144_229
noncomputable def n_144_196 : e_Y := u_push (.inl 2147483658) n_144_198
theorem t_144_196 : e_Sn 144 196 (e_un n_144_196) := u_pushT (s_bipush (n := (10)) hq_144 (by decide +kernel) rfl ⟨by decide +kernel, by decide +kernel⟩ : e_Sn 144 196 (o_push (.inl 2147483658) 198)) t_144_198
noncomputable def n_144_195 : e_Y := u_ld f_okI f_l3 n_144_196
theorem t_144_195 : e_Sn 144 195 (e_un n_144_195) := u_ldIT f_l3_eq (s_iload (i := .iload_n 3) (len := 1) hq_144 (by decide +kernel) rfl (.inr ⟨3, rfl, rfl, rfl⟩) : e_Sn 144 195 (o_load e_okI 3 196)) t_144_196
noncomputable def n_144_194 : e_Y := u_st f_okI f_s3 n_144_195
theorem t_144_194 : e_Sn 144 194 (e_un n_144_194) := u_stIT (fun _ _ _ => f_s3_eq) (s_istore (i := .istore_n 3) (len := 1) hq_144 (by decide +kernel) rfl (.inr ⟨3, rfl, rfl, rfl⟩) : e_Sn 144 194 (o_store e_okI 3 195)) t_144_195
noncomputable def n_144_193 : e_Y := u_push (.inl 2147483648) n_144_194
theorem t_144_193 : e_Sn 144 193 (e_un n_144_193) := u_pushT (s_iconst (n := (0)) hq_144 (by decide +kernel) rfl ⟨by decide +kernel, by decide +kernel⟩ : e_Sn 144 193 (o_push (.inl 2147483648) 194)) t_144_194
noncomputable def n_144_138 : e_Y := u_if y_ge0 (u_old2 (o_iflt 193 141) 193 n_144_193 (u_at 141)) n_144_193 (u_at 141)
theorem t_144_138 : e_Sn 144 138 (e_un n_144_138) := u_ifltT rfl (s_iflt (off := (55)) hq_144 (by decide +kernel) rfl rfl : e_Sn 144 138 (o_iflt 193 141)) t_144_193 u_atT
noncomputable def n_144_137 : e_Y := u_ld f_okI f_l3 n_144_138
theorem t_144_137 : e_Sn 144 137 (e_un n_144_137) := u_ldIT f_l3_eq (s_iload (i := .iload_n 3) (len := 1) hq_144 (by decide +kernel) rfl (.inr ⟨3, rfl, rfl, rfl⟩) : e_Sn 144 137 (o_load e_okI 3 138)) t_144_138
noncomputable def n_144_136 : e_Y := u_st f_okI f_s3 n_144_137
theorem t_144_136 : e_Sn 144 136 (e_un n_144_136) := u_stIT (fun _ _ _ => f_s3_eq) (s_istore (i := .istore_n 3) (len := 1) hq_144 (by decide +kernel) rfl (.inr ⟨3, rfl, rfl, rfl⟩) : e_Sn 144 136 (o_store e_okI 3 137)) t_144_137
noncomputable def n_144_135 : e_Y := u_bin a_isub (u_old (o_isub 136) n_144_136) n_144_136
theorem t_144_135 : e_Sn 144 135 (e_un n_144_135) := u_isubT (s_isub hq_144 (by decide +kernel) rfl : e_Sn 144 135 (o_isub 136)) t_144_136
noncomputable def n_144_134 : e_Y := u_push (.inl 2147483649) n_144_135
theorem t_144_134 : e_Sn 144 134 (e_un n_144_134) := u_pushT (s_iconst (n := (1)) hq_144 (by decide +kernel) rfl ⟨by decide +kernel, by decide +kernel⟩ : e_Sn 144 134 (o_push (.inl 2147483649) 135)) t_144_135
noncomputable def n_144_131 : e_Y := u_callV 19 236 1 20 1 n_236_0 n_144_134
theorem t_144_131 : e_Sn 144 131 (e_un n_144_131) := u_callVT rfl (s_callV (ci := 19) (C := er_19) (T := et_19) (N := 3) (index := 74) hq_144 ho_144 hy_236 hp_236 hc_236 hi_236 hd_236 (List.mem_of_getElem? (i := 2000) (by decide +kernel)) hs_236 (List.mem_of_getElem? (i := 2002) (by decide +kernel)) rfl (by decide +kernel) rfl : e_Sn 144 131 (o_callV (e_s1 19 236 1) 1 134)) t_236_0 t_144_134
noncomputable def n_144_128 : e_Y := u_getf 13 0 (u_old (o_getf (e_f1 13 0) 131) n_144_131) n_144_131
theorem t_144_128 : e_Sn 144 128 (e_un n_144_128) := u_getfT (s_getf (C := er_13) (T := et_13) (N := 13) (ref := "PlateroomprinterModel$Machine") (index := 187) (ci := 13) (k := 0) hq_144 ho_144 ⟨rfl, by decide, ei_13, (List.mem_of_getElem? (i := 1892) (by decide +kernel)), .inl rfl⟩ (by decide +kernel) rfl : e_Sn 144 128 (o_getf (e_f1 13 0) 131)) t_144_131
noncomputable def n_144_125 : e_Y := u_getf 12 1 (u_old (o_getf (e_f1 12 1) 128) n_144_128) n_144_128
theorem t_144_125 : e_Sn 144 125 (e_un n_144_125) := u_getfT (s_getf (C := er_12) (T := et_12) (N := 5) (ref := "PlateroomprinterModel") (index := 10) (ci := 12) (k := 1) hq_144 ho_144 ⟨rfl, by decide, ei_12, (List.mem_of_getElem? (i := 1959) (by decide +kernel)), .inl rfl⟩ (by decide +kernel) rfl : e_Sn 144 125 (o_getf (e_f1 12 1) 128)) t_144_128
noncomputable def n_144_124 : e_Y := u_ld f_okA f_l0 n_144_125
theorem t_144_124 : e_Sn 144 124 (e_un n_144_124) := u_ldAT f_l0_eq (s_aload (i := .aload_n 0) (len := 1) hq_144 (by decide +kernel) rfl (.inr ⟨0, rfl, rfl, rfl⟩) : e_Sn 144 124 (o_load e_okR 0 125)) t_144_125
noncomputable def n_144_123 : e_Y := u_old (o_storeL 1 124) n_144_124
theorem t_144_123 : e_Sn 144 123 (e_un n_144_123) := u_oldT (s_lstore (i := .lstore_n 1) (len := 1) hq_144 (by decide +kernel) rfl (.inr ⟨1, rfl, rfl, rfl⟩) : e_Sn 144 123 (o_storeL 1 124)) t_144_124 (e_cg_storeL 1)
noncomputable def n_144_120 : e_Y := u_callS 133 4 23 2 n_133_0 n_144_123
theorem t_144_120 : e_Sn 144 120 (e_un n_144_120) := u_callST rfl (s_callS (index := 370) hq_144 ho_144 hy_133 hp_133 hc_133 hi_133 hd_133 (List.mem_of_getElem? (i := 3147) (by decide +kernel)) hs_133 (by decide +kernel) rfl : e_Sn 144 120 (o_callS 133 4 2 123)) t_133_0 t_144_123
noncomputable def n_144_119 : e_Y := u_old (o_i2l 120) n_144_120
theorem t_144_119 : e_Sn 144 119 (e_un n_144_119) := u_oldT (s_i2l hq_144 (by decide +kernel) rfl : e_Sn 144 119 (o_i2l 120)) t_144_120 e_congr_i2l
noncomputable def n_144_116 : e_Y := u_callV 19 236 1 20 1 n_236_0 n_144_119
theorem t_144_116 : e_Sn 144 116 (e_un n_144_116) := u_callVT rfl (s_callV (ci := 19) (C := er_19) (T := et_19) (N := 3) (index := 74) hq_144 ho_144 hy_236 hp_236 hc_236 hi_236 hd_236 (List.mem_of_getElem? (i := 2000) (by decide +kernel)) hs_236 (List.mem_of_getElem? (i := 2002) (by decide +kernel)) rfl (by decide +kernel) rfl : e_Sn 144 116 (o_callV (e_s1 19 236 1) 1 119)) t_236_0 t_144_119
noncomputable def n_144_113 : e_Y := u_getf 13 0 (u_old (o_getf (e_f1 13 0) 116) n_144_116) n_144_116
theorem t_144_113 : e_Sn 144 113 (e_un n_144_113) := u_getfT (s_getf (C := er_13) (T := et_13) (N := 13) (ref := "PlateroomprinterModel$Machine") (index := 187) (ci := 13) (k := 0) hq_144 ho_144 ⟨rfl, by decide, ei_13, (List.mem_of_getElem? (i := 1892) (by decide +kernel)), .inl rfl⟩ (by decide +kernel) rfl : e_Sn 144 113 (o_getf (e_f1 13 0) 116)) t_144_116
noncomputable def n_144_110 : e_Y := u_getf 12 1 (u_old (o_getf (e_f1 12 1) 113) n_144_113) n_144_113
theorem t_144_110 : e_Sn 144 110 (e_un n_144_110) := u_getfT (s_getf (C := er_12) (T := et_12) (N := 5) (ref := "PlateroomprinterModel") (index := 10) (ci := 12) (k := 1) hq_144 ho_144 ⟨rfl, by decide, ei_12, (List.mem_of_getElem? (i := 1959) (by decide +kernel)), .inl rfl⟩ (by decide +kernel) rfl : e_Sn 144 110 (o_getf (e_f1 12 1) 113)) t_144_113
noncomputable def n_144_109 : e_Y := u_ld f_okA f_l0 n_144_110
theorem t_144_109 : e_Sn 144 109 (e_un n_144_109) := u_ldAT f_l0_eq (s_aload (i := .aload_n 0) (len := 1) hq_144 (by decide +kernel) rfl (.inr ⟨0, rfl, rfl, rfl⟩) : e_Sn 144 109 (o_load e_okR 0 110)) t_144_110
noncomputable def n_144_108 : e_Y := u_old (o_load e_okL 1 109) n_144_109
theorem t_144_108 : e_Sn 144 108 (e_un n_144_108) := u_oldT (s_lload (i := .lload_n 1) (len := 1) hq_144 (by decide +kernel) rfl (.inr ⟨1, rfl, rfl, rfl⟩) : e_Sn 144 108 (o_load e_okL 1 109)) t_144_109 e_congr_load
noncomputable def n_144_105 : e_Y := (u_at 81)
theorem t_144_105 : e_Sn 144 105 (e_un n_144_105) := u_gotoT (s_goto (off := (-24)) hq_144 (by decide +kernel) rfl : e_Sn 144 105 (o_goto 81)) u_atT
noncomputable def n_144_102 : e_Y := u_inc f_l5 f_s5 1 n_144_105
theorem t_144_102 : e_Sn 144 102 (e_un n_144_102) := u_incT f_l5_eq (fun _ _ _ => f_s5_eq) (s_iinc (zz := (1)) hq_144 (by decide +kernel) rfl (by decide +kernel) ⟨by decide, by decide⟩ : e_Sn 144 102 (o_iinc 5 1 105)) t_144_105
noncomputable def n_144_101 : e_Y := u_old (o_storeL 1 102) n_144_102
theorem t_144_101 : e_Sn 144 101 (e_un n_144_101) := u_oldT (s_lstore (i := .lstore_n 1) (len := 1) hq_144 (by decide +kernel) rfl (.inr ⟨1, rfl, rfl, rfl⟩) : e_Sn 144 101 (o_storeL 1 102)) t_144_102 (e_cg_storeL 1)
noncomputable def n_144_98 : e_Y := u_callS 133 4 23 2 n_133_0 n_144_101
theorem t_144_98 : e_Sn 144 98 (e_un n_144_98) := u_callST rfl (s_callS (index := 370) hq_144 ho_144 hy_133 hp_133 hc_133 hi_133 hd_133 (List.mem_of_getElem? (i := 3147) (by decide +kernel)) hs_133 (by decide +kernel) rfl : e_Sn 144 98 (o_callS 133 4 2 101)) t_133_0 t_144_101
noncomputable def n_144_97 : e_Y := u_old (o_i2l 98) n_144_98
theorem t_144_97 : e_Sn 144 97 (e_un n_144_97) := u_oldT (s_i2l hq_144 (by decide +kernel) rfl : e_Sn 144 97 (o_i2l 98)) t_144_98 e_congr_i2l
noncomputable def n_144_95 : e_Y := u_ld f_okI f_l6 n_144_97
theorem t_144_95 : e_Sn 144 95 (e_un n_144_95) := u_ldIT f_l6_eq (s_iload (i := .iload 6) (len := 2) hq_144 (by decide +kernel) rfl (.inl ⟨rfl, rfl⟩) : e_Sn 144 95 (o_load e_okI 6 97)) t_144_97
noncomputable def n_144_94 : e_Y := u_old (o_load e_okL 1 95) n_144_95
theorem t_144_94 : e_Sn 144 94 (e_un n_144_94) := u_oldT (s_lload (i := .lload_n 1) (len := 1) hq_144 (by decide +kernel) rfl (.inr ⟨1, rfl, rfl, rfl⟩) : e_Sn 144 94 (o_load e_okL 1 95)) t_144_95 e_congr_load
noncomputable def n_144_92 : e_Y := u_st f_okI f_s6 n_144_94
theorem t_144_92 : e_Sn 144 92 (e_un n_144_92) := u_stIT (fun _ _ _ => f_s6_eq) (s_istore (i := .istore 6) (len := 2) hq_144 (by decide +kernel) rfl (.inl ⟨rfl, rfl⟩) : e_Sn 144 92 (o_store e_okI 6 94)) t_144_94
noncomputable def n_144_91 : e_Y := u_ald 0 (u_old (o_ald e_fcs 92) n_144_92) n_144_92
theorem t_144_91 : e_Sn 144 91 (e_un n_144_91) := u_aldT (s_iald hq_144 (by decide +kernel) rfl : e_Sn 144 91 (o_ald e_fcs 92)) t_144_92
noncomputable def n_144_89 : e_Y := u_ld f_okI f_l5 n_144_91
theorem t_144_89 : e_Sn 144 89 (e_un n_144_89) := u_ldIT f_l5_eq (s_iload (i := .iload 5) (len := 2) hq_144 (by decide +kernel) rfl (.inl ⟨rfl, rfl⟩) : e_Sn 144 89 (o_load e_okI 5 91)) t_144_91
noncomputable def n_144_88 : e_Y := u_ld f_okA f_l3 n_144_89
theorem t_144_88 : e_Sn 144 88 (e_un n_144_88) := u_ldAT f_l3_eq (s_aload (i := .aload_n 3) (len := 1) hq_144 (by decide +kernel) rfl (.inr ⟨3, rfl, rfl, rfl⟩) : e_Sn 144 88 (o_load e_okR 3 89)) t_144_89
noncomputable def n_144_85 : e_Y := u_jmp y_ge (u_old2 (o_clt 88 108) 88 n_144_88 n_144_108) n_144_88 n_144_108
theorem t_144_85 : e_Sn 144 85 (e_un n_144_85) := u_cltT rfl (s_cge (off := (23)) hq_144 (by decide +kernel) rfl rfl : e_Sn 144 85 (o_clt 88 108)) t_144_88 t_144_108
noncomputable def n_144_83 : e_Y := u_ld f_okI f_l4 n_144_85
theorem t_144_83 : e_Sn 144 83 (e_un n_144_83) := u_ldIT f_l4_eq (s_iload (i := .iload 4) (len := 2) hq_144 (by decide +kernel) rfl (.inl ⟨rfl, rfl⟩) : e_Sn 144 83 (o_load e_okI 4 85)) t_144_85
noncomputable def n_144_81 : e_Y := u_ld f_okI f_l5 n_144_83
theorem t_144_81 : e_Sn 144 81 (e_un n_144_81) := u_ldIT f_l5_eq (s_iload (i := .iload 5) (len := 2) hq_144 (by decide +kernel) rfl (.inl ⟨rfl, rfl⟩) : e_Sn 144 81 (o_load e_okI 5 83)) t_144_83
noncomputable def n_144_79 : e_Y := u_st f_okI f_s5 n_144_81
theorem t_144_79 : e_Sn 144 79 (e_un n_144_79) := u_stIT (fun _ _ _ => f_s5_eq) (s_istore (i := .istore 5) (len := 2) hq_144 (by decide +kernel) rfl (.inl ⟨rfl, rfl⟩) : e_Sn 144 79 (o_store e_okI 5 81)) t_144_81
noncomputable def n_144_78 : e_Y := u_push (.inl 2147483648) n_144_79
theorem t_144_78 : e_Sn 144 78 (e_un n_144_78) := u_pushT (s_iconst (n := (0)) hq_144 (by decide +kernel) rfl ⟨by decide +kernel, by decide +kernel⟩ : e_Sn 144 78 (o_push (.inl 2147483648) 79)) t_144_79
noncomputable def n_144_76 : e_Y := u_st f_okI f_s4 n_144_78
theorem t_144_76 : e_Sn 144 76 (e_un n_144_76) := u_stIT (fun _ _ _ => f_s4_eq) (s_istore (i := .istore 4) (len := 2) hq_144 (by decide +kernel) rfl (.inl ⟨rfl, rfl⟩) : e_Sn 144 76 (o_store e_okI 4 78)) t_144_78
noncomputable def n_144_75 : e_Y := u_old (o_alen e_fcs 76) n_144_76
theorem t_144_75 : e_Sn 144 75 (e_un n_144_75) := u_oldT (s_alen hq_144 (by decide +kernel) rfl : e_Sn 144 75 (o_alen e_fcs 76)) t_144_76 (e_cg_alen e_fcs)
noncomputable def n_144_74 : e_Y := u_ld f_okA f_l3 n_144_75
theorem t_144_74 : e_Sn 144 74 (e_un n_144_74) := u_ldAT f_l3_eq (s_aload (i := .aload_n 3) (len := 1) hq_144 (by decide +kernel) rfl (.inr ⟨3, rfl, rfl, rfl⟩) : e_Sn 144 74 (o_load e_okR 3 75)) t_144_75
noncomputable def n_144_73 : e_Y := u_st f_okA f_s3 n_144_74
theorem t_144_73 : e_Sn 144 73 (e_un n_144_73) := u_stAT (fun _ _ _ => f_s3_eq) (s_astore (i := .astore_n 3) (len := 1) hq_144 (by decide +kernel) rfl (.inr ⟨3, rfl, rfl, rfl⟩) : e_Sn 144 73 (o_store e_okR 3 74)) t_144_74
noncomputable def n_144_70 : e_Y := u_getf 12 3 (u_old (o_getf (e_f1 12 3) 73) n_144_73) n_144_73
theorem t_144_70 : e_Sn 144 70 (e_un n_144_70) := u_getfT (s_getf (C := er_12) (T := et_12) (N := 5) (ref := "PlateroomprinterModel") (index := 23) (ci := 12) (k := 3) hq_144 ho_144 ⟨rfl, by decide, ei_12, (List.mem_of_getElem? (i := 1961) (by decide +kernel)), .inl rfl⟩ (by decide +kernel) rfl : e_Sn 144 70 (o_getf (e_f1 12 3) 73)) t_144_73
noncomputable def n_144_69 : e_Y := u_ld f_okA f_l0 n_144_70
theorem t_144_69 : e_Sn 144 69 (e_un n_144_69) := u_ldAT f_l0_eq (s_aload (i := .aload_n 0) (len := 1) hq_144 (by decide +kernel) rfl (.inr ⟨0, rfl, rfl, rfl⟩) : e_Sn 144 69 (o_load e_okR 0 70)) t_144_70
noncomputable def n_144_34 : e_Y := u_if y_ne0 (u_old2 (o_ifeq 69 37) 69 n_144_69 (u_at 37)) n_144_69 (u_at 37)
theorem t_144_34 : e_Sn 144 34 (e_un n_144_34) := u_ifeqT rfl (s_ifeq (off := (35)) hq_144 (by decide +kernel) rfl rfl : e_Sn 144 34 (o_ifeq 69 37)) t_144_69 u_atT
noncomputable def n_144_29 : e_Y := u_tab (o_callV (e_s1 20 238 1) 1 34)
theorem t_144_29 : e_Sn 144 29 (e_un n_144_29) := u_tabT (s_callF (count := 1) (xn := ⟨"java/util/Iterator", "hasNext", "()Z"⟩) (ci := 20) (C := er_20) (T := et_20) (N := 4) (index := 376) hq_144 ho_144 hy_238 hp_238 hc_238 hi_238 ⟨by decide +kernel, by decide +kernel, by decide +kernel⟩ (List.mem_of_getElem? (i := 3152) (by decide +kernel)) (by simp [e_fw, er_20]) hs_238 (List.mem_of_getElem? (i := 2856) (by decide +kernel)) rfl (by decide +kernel) rfl : e_Sn 144 29 (o_callV (e_s1 20 238 1) 1 34))
noncomputable def n_144_28 : e_Y := u_ld f_okA f_l3 n_144_29
theorem t_144_28 : e_Sn 144 28 (e_un n_144_28) := u_ldAT f_l3_eq (s_aload (i := .aload_n 3) (len := 1) hq_144 (by decide +kernel) rfl (.inr ⟨3, rfl, rfl, rfl⟩) : e_Sn 144 28 (o_load e_okR 3 29)) t_144_29
noncomputable def n_144_27 : e_Y := u_st f_okA f_s3 n_144_28
theorem t_144_27 : e_Sn 144 27 (e_un n_144_27) := u_stAT (fun _ _ _ => f_s3_eq) (s_astore (i := .astore_n 3) (len := 1) hq_144 (by decide +kernel) rfl (.inr ⟨3, rfl, rfl, rfl⟩) : e_Sn 144 27 (o_store e_okR 3 28)) t_144_28
noncomputable def n_144_24 : e_Y := u_callV 19 233 1 20 1 n_233_0 n_144_27
theorem t_144_24 : e_Sn 144 24 (e_un n_144_24) := u_callVT rfl (s_callV (ci := 19) (C := er_19) (T := et_19) (N := 3) (index := 372) hq_144 ho_144 hy_233 hp_233 hc_233 hi_233 hd_233 (List.mem_of_getElem? (i := 3150) (by decide +kernel)) hs_233 (List.mem_of_getElem? (i := 2830) (by decide +kernel)) rfl (by decide +kernel) rfl : e_Sn 144 24 (o_callV (e_s1 19 233 1) 1 27)) t_233_0 t_144_27
noncomputable def n_144_21 : e_Y := u_getf 12 2 (u_old (o_getf (e_f1 12 2) 24) n_144_24) n_144_24
theorem t_144_21 : e_Sn 144 21 (e_un n_144_21) := u_getfT (s_getf (C := er_12) (T := et_12) (N := 5) (ref := "PlateroomprinterModel") (index := 19) (ci := 12) (k := 2) hq_144 ho_144 ⟨rfl, by decide, ei_12, (List.mem_of_getElem? (i := 1960) (by decide +kernel)), .inl rfl⟩ (by decide +kernel) rfl : e_Sn 144 21 (o_getf (e_f1 12 2) 24)) t_144_24
noncomputable def n_144_20 : e_Y := u_ld f_okA f_l0 n_144_21
theorem t_144_20 : e_Sn 144 20 (e_un n_144_20) := u_ldAT f_l0_eq (s_aload (i := .aload_n 0) (len := 1) hq_144 (by decide +kernel) rfl (.inr ⟨0, rfl, rfl, rfl⟩) : e_Sn 144 20 (o_load e_okR 0 21)) t_144_21
noncomputable def n_144_19 : e_Y := u_old (o_storeL 1 20) n_144_20
theorem t_144_19 : e_Sn 144 19 (e_un n_144_19) := u_oldT (s_lstore (i := .lstore_n 1) (len := 1) hq_144 (by decide +kernel) rfl (.inr ⟨1, rfl, rfl, rfl⟩) : e_Sn 144 19 (o_storeL 1 20)) t_144_20 (e_cg_storeL 1)
noncomputable def n_144_16 : e_Y := u_callS 133 4 23 2 n_133_0 n_144_19
theorem t_144_16 : e_Sn 144 16 (e_un n_144_16) := u_callST rfl (s_callS (index := 370) hq_144 ho_144 hy_133 hp_133 hc_133 hi_133 hd_133 (List.mem_of_getElem? (i := 3147) (by decide +kernel)) hs_133 (by decide +kernel) rfl : e_Sn 144 16 (o_callS 133 4 2 19)) t_133_0 t_144_19
noncomputable def n_144_15 : e_Y := u_old (o_i2l 16) n_144_16
theorem t_144_15 : e_Sn 144 15 (e_un n_144_15) := u_oldT (s_i2l hq_144 (by decide +kernel) rfl : e_Sn 144 15 (o_i2l 16)) t_144_16 e_congr_i2l
noncomputable def n_144_12 : e_Y := u_callV 19 236 1 20 1 n_236_0 n_144_15
theorem t_144_12 : e_Sn 144 12 (e_un n_144_12) := u_callVT rfl (s_callV (ci := 19) (C := er_19) (T := et_19) (N := 3) (index := 74) hq_144 ho_144 hy_236 hp_236 hc_236 hi_236 hd_236 (List.mem_of_getElem? (i := 2000) (by decide +kernel)) hs_236 (List.mem_of_getElem? (i := 2002) (by decide +kernel)) rfl (by decide +kernel) rfl : e_Sn 144 12 (o_callV (e_s1 19 236 1) 1 15)) t_236_0 t_144_15
noncomputable def n_144_9 : e_Y := u_getf 12 2 (u_old (o_getf (e_f1 12 2) 12) n_144_12) n_144_12
theorem t_144_9 : e_Sn 144 9 (e_un n_144_9) := u_getfT (s_getf (C := er_12) (T := et_12) (N := 5) (ref := "PlateroomprinterModel") (index := 19) (ci := 12) (k := 2) hq_144 ho_144 ⟨rfl, by decide, ei_12, (List.mem_of_getElem? (i := 1960) (by decide +kernel)), .inl rfl⟩ (by decide +kernel) rfl : e_Sn 144 9 (o_getf (e_f1 12 2) 12)) t_144_12
noncomputable def n_144_8 : e_Y := u_ld f_okA f_l0 n_144_9
theorem t_144_8 : e_Sn 144 8 (e_un n_144_8) := u_ldAT f_l0_eq (s_aload (i := .aload_n 0) (len := 1) hq_144 (by decide +kernel) rfl (.inr ⟨0, rfl, rfl, rfl⟩) : e_Sn 144 8 (o_load e_okR 0 9)) t_144_9
noncomputable def n_144_5 : e_Y := u_push (e_L 9223372036854782213) n_144_8
theorem t_144_5 : e_Sn 144 5 (e_un n_144_5) := u_pushT (s_ldc2 (index := 385) (v := (6405)) hq_144 ho_144 (List.mem_of_getElem? (i := 3146) (by decide +kernel)) (by decide +kernel) rfl ⟨by decide +kernel, by decide +kernel⟩ : e_Sn 144 5 (o_push (e_L 9223372036854782213) 8)) t_144_8
noncomputable def n_144_2 : e_Y := u_old (o_putf (e_f1 12 0) e_okI 5) n_144_5
theorem t_144_2 : e_Sn 144 2 (e_un n_144_2) := u_oldT (s_putf (ty0 := ey_12) (ok := e_okI) (C := er_12) (T := et_12) (N := 5) (ref := "PlateroomprinterModel") (index := 124) (ci := 12) (k := 0) hq_144 ho_144 ⟨rfl, by decide, ei_12, (List.mem_of_getElem? (i := 1958) (by decide +kernel)), .inl rfl⟩ eo_12 en_12 e_oksI (.inl rfl) (by decide +kernel) rfl : e_Sn 144 2 (o_putf (e_f1 12 0) e_okI 5)) t_144_5 (e_cg_putf (e_f1 12 0) e_okI)
noncomputable def n_144_1 : e_Y := u_push (.inl 2147483648) n_144_2
theorem t_144_1 : e_Sn 144 1 (e_un n_144_1) := u_pushT (s_iconst (n := (0)) hq_144 (by decide +kernel) rfl ⟨by decide +kernel, by decide +kernel⟩ : e_Sn 144 1 (o_push (.inl 2147483648) 2)) t_144_2
noncomputable def n_144_0 : e_Y := u_ld f_okA f_l0 n_144_1
theorem t_144_0 : e_Sn 144 0 (e_un n_144_0) := u_ldAT f_l0_eq (s_aload (i := .aload_n 0) (len := 1) hq_144 (by decide +kernel) rfl (.inr ⟨0, rfl, rfl, rfl⟩) : e_Sn 144 0 (o_load e_okR 0 1)) t_144_1
noncomputable def e_tb_144 : e_X := (e_br 231 (e_br 81 (e_br 34 (e_lf 0 (e_un n_144_0)) (e_lf 34 (e_un n_144_34))) (e_br 195 (e_lf 81 (e_un n_144_81)) (e_lf 195 (e_un n_144_195)))) (e_br 368 (e_br 268 (e_lf 231 (e_un n_144_231)) (e_lf 268 (e_un n_144_268))) (e_br 376 (e_lf 368 (e_un n_144_368)) (e_br 439 (e_lf 376 (e_un n_144_376)) (e_lf 439 (e_un n_144_439))))))
theorem e_tk_144 : e_Tb 144 e_tb_144 := (e_brT (e_brT (e_brT (e_lfT t_144_0) (e_lfT t_144_34)) (e_brT (e_lfT t_144_81) (e_lfT t_144_195))) (e_brT (e_brT (e_lfT t_144_231) (e_lfT t_144_268)) (e_brT (e_lfT t_144_368) (e_brT (e_lfT t_144_376) (e_lfT t_144_439)))))
theorem hq_145 : (e_ml[145]?).map (·.2.1) = some prog_14_method_43_code := rfl
theorem ho_145 : (e_ml[145]?).map (·.1.cls) = some "PlateroomprinterModel" := rfl
theorem hr_145 : (e_ml[145]?).map (·.2.2.2) = some (some .int) := rfl
noncomputable def n_145_38 : e_Y := u_retI
theorem t_145_38 : e_Sn 145 38 (e_un n_145_38) := u_retIT (s_iret hq_145 hr_145 (by decide +kernel) : e_Sn 145 38 (o_ret e_okI))
noncomputable def n_145_37 : e_Y := u_ald 0 (u_old (o_ald e_fcs 38) n_145_38) n_145_38
theorem t_145_37 : e_Sn 145 37 (e_un n_145_37) := u_aldT (s_iald hq_145 (by decide +kernel) rfl : e_Sn 145 37 (o_ald e_fcs 38)) t_145_38
noncomputable def n_145_36 : e_Y := u_ld f_okI f_l1 n_145_37
theorem t_145_36 : e_Sn 145 36 (e_un n_145_36) := u_ldIT f_l1_eq (s_iload (i := .iload_n 1) (len := 1) hq_145 (by decide +kernel) rfl (.inr ⟨1, rfl, rfl, rfl⟩) : e_Sn 145 36 (o_load e_okI 1 37)) t_145_37
noncomputable def n_145_33 : e_Y := u_getf 13 12 (u_old (o_getf (e_f1 13 12) 36) n_145_36) n_145_36
theorem t_145_33 : e_Sn 145 33 (e_un n_145_33) := u_getfT (s_getf (C := er_13) (T := et_13) (N := 13) (ref := "PlateroomprinterModel$Machine") (index := 215) (ci := 13) (k := 12) hq_145 ho_145 ⟨rfl, by decide, ei_13, (List.mem_of_getElem? (i := 1928) (by decide +kernel)), .inl rfl⟩ (by decide +kernel) rfl : e_Sn 145 33 (o_getf (e_f1 13 12) 36)) t_145_36
noncomputable def n_145_30 : e_Y := u_getf 12 1 (u_old (o_getf (e_f1 12 1) 33) n_145_33) n_145_33
theorem t_145_30 : e_Sn 145 30 (e_un n_145_30) := u_getfT (s_getf (C := er_12) (T := et_12) (N := 5) (ref := "PlateroomprinterModel") (index := 10) (ci := 12) (k := 1) hq_145 ho_145 ⟨rfl, by decide, ei_12, (List.mem_of_getElem? (i := 1959) (by decide +kernel)), .inl rfl⟩ (by decide +kernel) rfl : e_Sn 145 30 (o_getf (e_f1 12 1) 33)) t_145_33
noncomputable def n_145_29 : e_Y := u_ld f_okA f_l0 n_145_30
theorem t_145_29 : e_Sn 145 29 (e_un n_145_29) := u_ldAT f_l0_eq (s_aload (i := .aload_n 0) (len := 1) hq_145 (by decide +kernel) rfl (.inr ⟨0, rfl, rfl, rfl⟩) : e_Sn 145 29 (o_load e_okR 0 30)) t_145_30
noncomputable def n_145_26 : e_Y := n_145_38
theorem t_145_26 : e_Sn 145 26 (e_un n_145_26) := u_gotoT (s_goto (off := (12)) hq_145 (by decide +kernel) rfl : e_Sn 145 26 (o_goto 38)) t_145_38
noncomputable def n_145_25 : e_Y := u_push (.inl 2147483648) n_145_26
theorem t_145_25 : e_Sn 145 25 (e_un n_145_25) := u_pushT (s_iconst (n := (0)) hq_145 (by decide +kernel) rfl ⟨by decide +kernel, by decide +kernel⟩ : e_Sn 145 25 (o_push (.inl 2147483648) 26)) t_145_26
noncomputable def n_145_22 : e_Y := u_if y_ne0 (u_old2 (o_ifeq 29 25) 29 n_145_29 n_145_25) n_145_29 n_145_25
theorem t_145_22 : e_Sn 145 22 (e_un n_145_22) := u_ifeqT rfl (s_ifeq (off := (7)) hq_145 (by decide +kernel) rfl rfl : e_Sn 145 22 (o_ifeq 29 25)) t_145_29 t_145_25
noncomputable def n_145_19 : e_Y := u_callV 12 195 3 22 3 n_195_0 n_145_22
theorem t_145_19 : e_Sn 145 19 (e_un n_145_19) := u_callVT rfl (s_callV (ci := 12) (C := er_12) (T := et_12) (N := 5) (index := 148) hq_145 ho_145 hy_195 hp_195 hc_195 hi_195 hd_195 (List.mem_of_getElem? (i := 1992) (by decide +kernel)) hs_195 (List.mem_of_getElem? (i := 73) (by decide +kernel)) rfl (by decide +kernel) rfl : e_Sn 145 19 (o_callV (e_s1 12 195 3) 3 22)) t_195_0 t_145_22
noncomputable def n_145_18 : e_Y := u_push (.inl 2147483649) n_145_19
theorem t_145_18 : e_Sn 145 18 (e_un n_145_18) := u_pushT (s_iconst (n := (1)) hq_145 (by decide +kernel) rfl ⟨by decide +kernel, by decide +kernel⟩ : e_Sn 145 18 (o_push (.inl 2147483649) 19)) t_145_19
noncomputable def n_145_17 : e_Y := u_push (.inl 2147483648) n_145_18
theorem t_145_17 : e_Sn 145 17 (e_un n_145_17) := u_pushT (s_iconst (n := (0)) hq_145 (by decide +kernel) rfl ⟨by decide +kernel, by decide +kernel⟩ : e_Sn 145 17 (o_push (.inl 2147483648) 18)) t_145_18
noncomputable def n_145_14 : e_Y := n_145_18
theorem t_145_14 : e_Sn 145 14 (e_un n_145_14) := u_gotoT (s_goto (off := (4)) hq_145 (by decide +kernel) rfl : e_Sn 145 14 (o_goto 18)) t_145_18
noncomputable def n_145_13 : e_Y := u_push (.inl 2147483649) n_145_14
theorem t_145_13 : e_Sn 145 13 (e_un n_145_13) := u_pushT (s_iconst (n := (1)) hq_145 (by decide +kernel) rfl ⟨by decide +kernel, by decide +kernel⟩ : e_Sn 145 13 (o_push (.inl 2147483649) 14)) t_145_14
noncomputable def n_145_10 : e_Y := u_if y_ne0 (u_old2 (o_ifeq 13 17) 13 n_145_13 n_145_17) n_145_13 n_145_17
theorem t_145_10 : e_Sn 145 10 (e_un n_145_10) := u_ifeqT rfl (s_ifne (off := (7)) hq_145 (by decide +kernel) rfl rfl : e_Sn 145 10 (o_ifeq 13 17)) t_145_13 t_145_17
noncomputable def n_145_7 : e_Y := u_callS 162 6 25 3 n_162_0 n_145_10
theorem t_145_7 : e_Sn 145 7 (e_un n_145_7) := u_callST rfl (s_callS (index := 136) hq_145 ho_145 hy_162 hp_162 hc_162 hi_162 hd_162 (List.mem_of_getElem? (i := 1987) (by decide +kernel)) hs_162 (by decide +kernel) rfl : e_Sn 145 7 (o_callS 162 6 3 10)) t_162_0 t_145_10
noncomputable def n_145_4 : e_Y := u_push (e_L 9223372036854775860) n_145_7
theorem t_145_4 : e_Sn 145 4 (e_un n_145_4) := u_pushT (s_ldc2 (index := 140) (v := (52)) hq_145 ho_145 (List.mem_of_getElem? (i := 1990) (by decide +kernel)) (by decide +kernel) rfl ⟨by decide +kernel, by decide +kernel⟩ : e_Sn 145 4 (o_push (e_L 9223372036854775860) 7)) t_145_7
noncomputable def n_145_3 : e_Y := u_push (e_L 9223372036854775808) n_145_4
theorem t_145_3 : e_Sn 145 3 (e_un n_145_3) := u_pushT (s_lconst (n := 0) hq_145 (by decide +kernel) rfl ⟨by decide +kernel, by decide +kernel⟩ : e_Sn 145 3 (o_push (e_L 9223372036854775808) 4)) t_145_4
noncomputable def n_145_2 : e_Y := u_old (o_i2l 3) n_145_3
theorem t_145_2 : e_Sn 145 2 (e_un n_145_2) := u_oldT (s_i2l hq_145 (by decide +kernel) rfl : e_Sn 145 2 (o_i2l 3)) t_145_3 e_congr_i2l
noncomputable def n_145_1 : e_Y := u_ld f_okI f_l1 n_145_2
theorem t_145_1 : e_Sn 145 1 (e_un n_145_1) := u_ldIT f_l1_eq (s_iload (i := .iload_n 1) (len := 1) hq_145 (by decide +kernel) rfl (.inr ⟨1, rfl, rfl, rfl⟩) : e_Sn 145 1 (o_load e_okI 1 2)) t_145_2
noncomputable def n_145_0 : e_Y := u_ld f_okA f_l0 n_145_1
theorem t_145_0 : e_Sn 145 0 (e_un n_145_0) := u_ldAT f_l0_eq (s_aload (i := .aload_n 0) (len := 1) hq_145 (by decide +kernel) rfl (.inr ⟨0, rfl, rfl, rfl⟩) : e_Sn 145 0 (o_load e_okR 0 1)) t_145_1
noncomputable def e_tb_145 : e_X := (e_lf 0 (e_un n_145_0))
theorem e_tk_145 : e_Tb 145 e_tb_145 := (e_lfT t_145_0)
theorem hq_163 : (e_ml[163]?).map (·.2.1) = some prog_14_method_56_code := rfl
theorem ho_163 : (e_ml[163]?).map (·.1.cls) = some "PlateroomprinterModel" := rfl
theorem hr_163 : (e_ml[163]?).map (·.2.2.2) = some (some .boolean) := rfl
noncomputable def n_163_29 : e_Y := u_tab (o_ret e_okZ)
theorem t_163_29 : e_Sn 163 29 (e_un n_163_29) := u_tabT (s_zret hq_163 hr_163 (by decide +kernel) : e_Sn 163 29 (o_ret e_okZ))
noncomputable def n_163_28 : e_Y := u_push (.inl 2147483648) n_163_29
theorem t_163_28 : e_Sn 163 28 (e_un n_163_28) := u_pushT (s_iconst (n := (0)) hq_163 (by decide +kernel) rfl ⟨by decide +kernel, by decide +kernel⟩ : e_Sn 163 28 (o_push (.inl 2147483648) 29)) t_163_29
noncomputable def n_163_25 : e_Y := n_163_29
theorem t_163_25 : e_Sn 163 25 (e_un n_163_25) := u_gotoT (s_goto (off := (4)) hq_163 (by decide +kernel) rfl : e_Sn 163 25 (o_goto 29)) t_163_29
noncomputable def n_163_24 : e_Y := u_push (.inl 2147483649) n_163_25
theorem t_163_24 : e_Sn 163 24 (e_un n_163_24) := u_pushT (s_iconst (n := (1)) hq_163 (by decide +kernel) rfl ⟨by decide +kernel, by decide +kernel⟩ : e_Sn 163 24 (o_push (.inl 2147483649) 25)) t_163_25
noncomputable def n_163_21 : e_Y := u_if y_ne0 (u_old2 (o_ifeq 24 28) 24 n_163_24 n_163_28) n_163_24 n_163_28
theorem t_163_21 : e_Sn 163 21 (e_un n_163_21) := u_ifeqT rfl (s_ifne (off := (7)) hq_163 (by decide +kernel) rfl rfl : e_Sn 163 21 (o_ifeq 24 28)) t_163_24 t_163_28
noncomputable def n_163_18 : e_Y := u_callS 162 6 25 3 n_162_0 n_163_21
theorem t_163_18 : e_Sn 163 18 (e_un n_163_18) := u_callST rfl (s_callS (index := 136) hq_163 ho_163 hy_162 hp_162 hc_162 hi_162 hd_162 (List.mem_of_getElem? (i := 1987) (by decide +kernel)) hs_162 (by decide +kernel) rfl : e_Sn 163 18 (o_callS 162 6 3 21)) t_162_0 t_163_21
noncomputable def n_163_15 : e_Y := u_push (e_L 9223372036854775839) n_163_18
theorem t_163_15 : e_Sn 163 15 (e_un n_163_15) := u_pushT (s_ldc2 (index := 286) (v := (31)) hq_163 ho_163 (List.mem_of_getElem? (i := 3009) (by decide +kernel)) (by decide +kernel) rfl ⟨by decide +kernel, by decide +kernel⟩ : e_Sn 163 15 (o_push (e_L 9223372036854775839) 18)) t_163_18
noncomputable def n_163_14 : e_Y := u_push (e_L 9223372036854775808) n_163_15
theorem t_163_14 : e_Sn 163 14 (e_un n_163_14) := u_pushT (s_lconst (n := 0) hq_163 (by decide +kernel) rfl ⟨by decide +kernel, by decide +kernel⟩ : e_Sn 163 14 (o_push (e_L 9223372036854775808) 15)) t_163_15
noncomputable def n_163_13 : e_Y := u_old (o_i2l 14) n_163_14
theorem t_163_13 : e_Sn 163 13 (e_un n_163_13) := u_oldT (s_i2l hq_163 (by decide +kernel) rfl : e_Sn 163 13 (o_i2l 14)) t_163_14 e_congr_i2l
noncomputable def n_163_12 : e_Y := u_ld f_okI f_l1 n_163_13
theorem t_163_12 : e_Sn 163 12 (e_un n_163_12) := u_ldIT f_l1_eq (s_iload (i := .iload_n 1) (len := 1) hq_163 (by decide +kernel) rfl (.inr ⟨1, rfl, rfl, rfl⟩) : e_Sn 163 12 (o_load e_okI 1 13)) t_163_13
noncomputable def n_163_9 : e_Y := u_if y_ne0 (u_old2 (o_ifeq 24 12) 24 n_163_24 n_163_12) n_163_24 n_163_12
theorem t_163_9 : e_Sn 163 9 (e_un n_163_9) := u_ifeqT rfl (s_ifeq (off := (15)) hq_163 (by decide +kernel) rfl rfl : e_Sn 163 9 (o_ifeq 24 12)) t_163_24 t_163_12
noncomputable def n_163_6 : e_Y := u_callS 162 6 25 3 n_162_0 n_163_9
theorem t_163_6 : e_Sn 163 6 (e_un n_163_6) := u_callST rfl (s_callS (index := 136) hq_163 ho_163 hy_162 hp_162 hc_162 hi_162 hd_162 (List.mem_of_getElem? (i := 1987) (by decide +kernel)) hs_162 (by decide +kernel) rfl : e_Sn 163 6 (o_callS 162 6 3 9)) t_162_0 t_163_9
noncomputable def n_163_3 : e_Y := u_push (e_L 9223372036854775839) n_163_6
theorem t_163_3 : e_Sn 163 3 (e_un n_163_3) := u_pushT (s_ldc2 (index := 286) (v := (31)) hq_163 ho_163 (List.mem_of_getElem? (i := 3009) (by decide +kernel)) (by decide +kernel) rfl ⟨by decide +kernel, by decide +kernel⟩ : e_Sn 163 3 (o_push (e_L 9223372036854775839) 6)) t_163_6
noncomputable def n_163_2 : e_Y := u_push (e_L 9223372036854775808) n_163_3
theorem t_163_2 : e_Sn 163 2 (e_un n_163_2) := u_pushT (s_lconst (n := 0) hq_163 (by decide +kernel) rfl ⟨by decide +kernel, by decide +kernel⟩ : e_Sn 163 2 (o_push (e_L 9223372036854775808) 3)) t_163_3
noncomputable def n_163_1 : e_Y := u_old (o_i2l 2) n_163_2
theorem t_163_1 : e_Sn 163 1 (e_un n_163_1) := u_oldT (s_i2l hq_163 (by decide +kernel) rfl : e_Sn 163 1 (o_i2l 2)) t_163_2 e_congr_i2l
noncomputable def n_163_0 : e_Y := u_ld f_okI f_l0 n_163_1
theorem t_163_0 : e_Sn 163 0 (e_un n_163_0) := u_ldIT f_l0_eq (s_iload (i := .iload_n 0) (len := 1) hq_163 (by decide +kernel) rfl (.inr ⟨0, rfl, rfl, rfl⟩) : e_Sn 163 0 (o_load e_okI 0 1)) t_163_1
noncomputable def e_tb_163 : e_X := (e_lf 0 (e_un n_163_0))
theorem e_tk_163 : e_Tb 163 e_tb_163 := (e_lfT t_163_0)
theorem hq_146 : (e_ml[146]?).map (·.2.1) = some prog_14_method_69_code := rfl
theorem ho_146 : (e_ml[146]?).map (·.1.cls) = some "PlateroomprinterModel" := rfl
theorem hr_146 : (e_ml[146]?).map (·.2.2.2) = some (some .int) := rfl
noncomputable def n_146_33 : e_Y := u_retI
theorem t_146_33 : e_Sn 146 33 (e_un n_146_33) := u_retIT (s_iret hq_146 hr_146 (by decide +kernel) : e_Sn 146 33 (o_ret e_okI))
noncomputable def n_146_30 : e_Y := u_callS 136 4 23 2 n_136_0 n_146_33
theorem t_146_30 : e_Sn 146 30 (e_un n_146_30) := u_callST rfl (s_callS (index := 327) hq_146 ho_146 hy_136 hp_136 hc_136 hi_136 hd_136 (List.mem_of_getElem? (i := 3060) (by decide +kernel)) hs_136 (by decide +kernel) rfl : e_Sn 146 30 (o_callS 136 4 2 33)) t_136_0 t_146_33
noncomputable def n_146_29 : e_Y := u_bin a_iadd (u_old (o_iadd 30) n_146_30) n_146_30
theorem t_146_29 : e_Sn 146 29 (e_un n_146_29) := u_iaddT (s_iadd hq_146 (by decide +kernel) rfl : e_Sn 146 29 (o_iadd 30)) t_146_30
noncomputable def n_146_28 : e_Y := u_ld f_okI f_l1 n_146_29
theorem t_146_28 : e_Sn 146 28 (e_un n_146_28) := u_ldIT f_l1_eq (s_iload (i := .iload_n 1) (len := 1) hq_146 (by decide +kernel) rfl (.inr ⟨1, rfl, rfl, rfl⟩) : e_Sn 146 28 (o_load e_okI 1 29)) t_146_29
noncomputable def n_146_27 : e_Y := u_bin a_imul (u_old (o_imul 28) n_146_28) n_146_28
theorem t_146_27 : e_Sn 146 27 (e_un n_146_27) := u_imulT (s_imul hq_146 (by decide +kernel) rfl : e_Sn 146 27 (o_imul 28)) t_146_28
noncomputable def n_146_25 : e_Y := u_push (.inl 2147483680) n_146_27
theorem t_146_25 : e_Sn 146 25 (e_un n_146_25) := u_pushT (s_bipush (n := (32)) hq_146 (by decide +kernel) rfl ⟨by decide +kernel, by decide +kernel⟩ : e_Sn 146 25 (o_push (.inl 2147483680) 27)) t_146_27
noncomputable def n_146_24 : e_Y := u_ld f_okI f_l2 n_146_25
theorem t_146_24 : e_Sn 146 24 (e_un n_146_24) := u_ldIT f_l2_eq (s_iload (i := .iload_n 2) (len := 1) hq_146 (by decide +kernel) rfl (.inr ⟨2, rfl, rfl, rfl⟩) : e_Sn 146 24 (o_load e_okI 2 25)) t_146_25
noncomputable def n_146_21 : e_Y := u_getf 13 6 (u_old (o_getf (e_f1 13 6) 24) n_146_24) n_146_24
theorem t_146_21 : e_Sn 146 21 (e_un n_146_21) := u_getfT (s_getf (C := er_13) (T := et_13) (N := 13) (ref := "PlateroomprinterModel$Machine") (index := 324) (ci := 13) (k := 6) hq_146 ho_146 ⟨rfl, by decide, ei_13, (List.mem_of_getElem? (i := 1910) (by decide +kernel)), .inl rfl⟩ (by decide +kernel) rfl : e_Sn 146 21 (o_getf (e_f1 13 6) 24)) t_146_24
noncomputable def n_146_18 : e_Y := u_getf 12 1 (u_old (o_getf (e_f1 12 1) 21) n_146_21) n_146_21
theorem t_146_18 : e_Sn 146 18 (e_un n_146_18) := u_getfT (s_getf (C := er_12) (T := et_12) (N := 5) (ref := "PlateroomprinterModel") (index := 10) (ci := 12) (k := 1) hq_146 ho_146 ⟨rfl, by decide, ei_12, (List.mem_of_getElem? (i := 1959) (by decide +kernel)), .inl rfl⟩ (by decide +kernel) rfl : e_Sn 146 18 (o_getf (e_f1 12 1) 21)) t_146_21
noncomputable def n_146_17 : e_Y := u_ld f_okA f_l0 n_146_18
theorem t_146_17 : e_Sn 146 17 (e_un n_146_17) := u_ldAT f_l0_eq (s_aload (i := .aload_n 0) (len := 1) hq_146 (by decide +kernel) rfl (.inr ⟨0, rfl, rfl, rfl⟩) : e_Sn 146 17 (o_load e_okR 0 18)) t_146_18
noncomputable def n_146_14 : e_Y := n_146_33
theorem t_146_14 : e_Sn 146 14 (e_un n_146_14) := u_gotoT (s_goto (off := (19)) hq_146 (by decide +kernel) rfl : e_Sn 146 14 (o_goto 33)) t_146_33
noncomputable def n_146_13 : e_Y := u_push (.inl 2147483648) n_146_14
theorem t_146_13 : e_Sn 146 13 (e_un n_146_13) := u_pushT (s_iconst (n := (0)) hq_146 (by decide +kernel) rfl ⟨by decide +kernel, by decide +kernel⟩ : e_Sn 146 13 (o_push (.inl 2147483648) 14)) t_146_14
noncomputable def n_146_10 : e_Y := u_if y_ne0 (u_old2 (o_ifeq 17 13) 17 n_146_17 n_146_13) n_146_17 n_146_13
theorem t_146_10 : e_Sn 146 10 (e_un n_146_10) := u_ifeqT rfl (s_ifeq (off := (7)) hq_146 (by decide +kernel) rfl rfl : e_Sn 146 10 (o_ifeq 17 13)) t_146_17 t_146_13
noncomputable def n_146_7 : e_Y := u_callV 12 195 3 22 3 n_195_0 n_146_10
theorem t_146_7 : e_Sn 146 7 (e_un n_146_7) := u_callVT rfl (s_callV (ci := 12) (C := er_12) (T := et_12) (N := 5) (index := 148) hq_146 ho_146 hy_195 hp_195 hc_195 hi_195 hd_195 (List.mem_of_getElem? (i := 1992) (by decide +kernel)) hs_195 (List.mem_of_getElem? (i := 73) (by decide +kernel)) rfl (by decide +kernel) rfl : e_Sn 146 7 (o_callV (e_s1 12 195 3) 3 10)) t_195_0 t_146_10
noncomputable def n_146_6 : e_Y := u_push (.inl 2147483649) n_146_7
theorem t_146_6 : e_Sn 146 6 (e_un n_146_6) := u_pushT (s_iconst (n := (1)) hq_146 (by decide +kernel) rfl ⟨by decide +kernel, by decide +kernel⟩ : e_Sn 146 6 (o_push (.inl 2147483649) 7)) t_146_7
noncomputable def n_146_3 : e_Y := u_callS 163 2 21 2 n_163_0 n_146_6
theorem t_146_3 : e_Sn 146 3 (e_un n_146_3) := u_callST rfl (s_callS (index := 288) hq_146 ho_146 hy_163 hp_163 hc_163 hi_163 hd_163 (List.mem_of_getElem? (i := 3006) (by decide +kernel)) hs_163 (by decide +kernel) rfl : e_Sn 146 3 (o_callS 163 2 2 6)) t_163_0 t_146_6
noncomputable def n_146_2 : e_Y := u_ld f_okI f_l2 n_146_3
theorem t_146_2 : e_Sn 146 2 (e_un n_146_2) := u_ldIT f_l2_eq (s_iload (i := .iload_n 2) (len := 1) hq_146 (by decide +kernel) rfl (.inr ⟨2, rfl, rfl, rfl⟩) : e_Sn 146 2 (o_load e_okI 2 3)) t_146_3
noncomputable def n_146_1 : e_Y := u_ld f_okI f_l1 n_146_2
theorem t_146_1 : e_Sn 146 1 (e_un n_146_1) := u_ldIT f_l1_eq (s_iload (i := .iload_n 1) (len := 1) hq_146 (by decide +kernel) rfl (.inr ⟨1, rfl, rfl, rfl⟩) : e_Sn 146 1 (o_load e_okI 1 2)) t_146_2
noncomputable def n_146_0 : e_Y := u_ld f_okA f_l0 n_146_1
theorem t_146_0 : e_Sn 146 0 (e_un n_146_0) := u_ldAT f_l0_eq (s_aload (i := .aload_n 0) (len := 1) hq_146 (by decide +kernel) rfl (.inr ⟨0, rfl, rfl, rfl⟩) : e_Sn 146 0 (o_load e_okR 0 1)) t_146_1
noncomputable def e_tb_146 : e_X := (e_lf 0 (e_un n_146_0))
theorem e_tk_146 : e_Tb 146 e_tb_146 := (e_lfT t_146_0)
theorem hq_147 : (e_ml[147]?).map (·.2.1) = some prog_14_method_58_code := rfl
theorem ho_147 : (e_ml[147]?).map (·.1.cls) = some "PlateroomprinterModel" := rfl
theorem hr_147 : (e_ml[147]?).map (·.2.2.2) = some (some .int) := rfl
noncomputable def n_147_38 : e_Y := u_retI
theorem t_147_38 : e_Sn 147 38 (e_un n_147_38) := u_retIT (s_iret hq_147 hr_147 (by decide +kernel) : e_Sn 147 38 (o_ret e_okI))
noncomputable def n_147_35 : e_Y := u_callS 174 6 25 1 n_174_0 n_147_38
theorem t_147_35 : e_Sn 147 35 (e_un n_147_35) := u_callST rfl (s_callS (index := 240) hq_147 ho_147 hy_174 hp_174 hc_174 hi_174 hd_174 (List.mem_of_getElem? (i := 2959) (by decide +kernel)) hs_174 (by decide +kernel) rfl : e_Sn 147 35 (o_callS 174 6 1 38)) t_174_0 t_147_38
noncomputable def n_147_32 : e_Y := u_callS 148 4 23 2 n_148_0 n_147_35
theorem t_147_32 : e_Sn 147 32 (e_un n_147_32) := u_callST rfl (s_callS (index := 291) hq_147 ho_147 hy_148 hp_148 hc_148 hi_148 hd_148 (List.mem_of_getElem? (i := 3014) (by decide +kernel)) hs_148 (by decide +kernel) rfl : e_Sn 147 32 (o_callS 148 4 2 35)) t_148_0 t_147_35
noncomputable def n_147_31 : e_Y := u_ld f_okI f_l1 n_147_32
theorem t_147_31 : e_Sn 147 31 (e_un n_147_31) := u_ldIT f_l1_eq (s_iload (i := .iload_n 1) (len := 1) hq_147 (by decide +kernel) rfl (.inr ⟨1, rfl, rfl, rfl⟩) : e_Sn 147 31 (o_load e_okI 1 32)) t_147_32
noncomputable def n_147_28 : e_Y := u_callV 12 184 1 20 1 n_184_0 n_147_31
theorem t_147_28 : e_Sn 147 28 (e_un n_147_28) := u_callVT rfl (s_callV (ci := 12) (C := er_12) (T := et_12) (N := 5) (index := 261) hq_147 ho_147 hy_184 hp_184 hc_184 hi_184 hd_184 (List.mem_of_getElem? (i := 2977) (by decide +kernel)) hs_184 (List.mem_of_getElem? (i := 127) (by decide +kernel)) rfl (by decide +kernel) rfl : e_Sn 147 28 (o_callV (e_s1 12 184 1) 1 31)) t_184_0 t_147_31
noncomputable def n_147_27 : e_Y := u_ld f_okA f_l0 n_147_28
theorem t_147_27 : e_Sn 147 27 (e_un n_147_27) := u_ldAT f_l0_eq (s_aload (i := .aload_n 0) (len := 1) hq_147 (by decide +kernel) rfl (.inr ⟨0, rfl, rfl, rfl⟩) : e_Sn 147 27 (o_load e_okR 0 28)) t_147_28
noncomputable def n_147_24 : e_Y := n_147_38
theorem t_147_24 : e_Sn 147 24 (e_un n_147_24) := u_gotoT (s_goto (off := (14)) hq_147 (by decide +kernel) rfl : e_Sn 147 24 (o_goto 38)) t_147_38
noncomputable def n_147_23 : e_Y := u_push (.inl 2147483648) n_147_24
theorem t_147_23 : e_Sn 147 23 (e_un n_147_23) := u_pushT (s_iconst (n := (0)) hq_147 (by decide +kernel) rfl ⟨by decide +kernel, by decide +kernel⟩ : e_Sn 147 23 (o_push (.inl 2147483648) 24)) t_147_24
noncomputable def n_147_20 : e_Y := u_if y_ne0 (u_old2 (o_ifeq 27 23) 27 n_147_27 n_147_23) n_147_27 n_147_23
theorem t_147_20 : e_Sn 147 20 (e_un n_147_20) := u_ifeqT rfl (s_ifeq (off := (7)) hq_147 (by decide +kernel) rfl rfl : e_Sn 147 20 (o_ifeq 27 23)) t_147_27 t_147_23
noncomputable def n_147_17 : e_Y := u_callV 12 195 3 22 3 n_195_0 n_147_20
theorem t_147_17 : e_Sn 147 17 (e_un n_147_17) := u_callVT rfl (s_callV (ci := 12) (C := er_12) (T := et_12) (N := 5) (index := 148) hq_147 ho_147 hy_195 hp_195 hc_195 hi_195 hd_195 (List.mem_of_getElem? (i := 1992) (by decide +kernel)) hs_195 (List.mem_of_getElem? (i := 73) (by decide +kernel)) rfl (by decide +kernel) rfl : e_Sn 147 17 (o_callV (e_s1 12 195 3) 3 20)) t_195_0 t_147_20
noncomputable def n_147_16 : e_Y := u_push (.inl 2147483649) n_147_17
theorem t_147_16 : e_Sn 147 16 (e_un n_147_16) := u_pushT (s_iconst (n := (1)) hq_147 (by decide +kernel) rfl ⟨by decide +kernel, by decide +kernel⟩ : e_Sn 147 16 (o_push (.inl 2147483649) 17)) t_147_17
noncomputable def n_147_15 : e_Y := u_push (.inl 2147483648) n_147_16
theorem t_147_15 : e_Sn 147 15 (e_un n_147_15) := u_pushT (s_iconst (n := (0)) hq_147 (by decide +kernel) rfl ⟨by decide +kernel, by decide +kernel⟩ : e_Sn 147 15 (o_push (.inl 2147483648) 16)) t_147_16
noncomputable def n_147_12 : e_Y := n_147_16
theorem t_147_12 : e_Sn 147 12 (e_un n_147_12) := u_gotoT (s_goto (off := (4)) hq_147 (by decide +kernel) rfl : e_Sn 147 12 (o_goto 16)) t_147_16
noncomputable def n_147_11 : e_Y := u_push (.inl 2147483649) n_147_12
theorem t_147_11 : e_Sn 147 11 (e_un n_147_11) := u_pushT (s_iconst (n := (1)) hq_147 (by decide +kernel) rfl ⟨by decide +kernel, by decide +kernel⟩ : e_Sn 147 11 (o_push (.inl 2147483649) 12)) t_147_12
noncomputable def n_147_8 : e_Y := u_if y_ne0 (u_old2 (o_ifeq 11 15) 11 n_147_11 n_147_15) n_147_11 n_147_15
theorem t_147_8 : e_Sn 147 8 (e_un n_147_8) := u_ifeqT rfl (s_ifne (off := (7)) hq_147 (by decide +kernel) rfl rfl : e_Sn 147 8 (o_ifeq 11 15)) t_147_11 t_147_15
noncomputable def n_147_5 : e_Y := u_callS 162 6 25 3 n_162_0 n_147_8
theorem t_147_5 : e_Sn 147 5 (e_un n_147_5) := u_callST rfl (s_callS (index := 136) hq_147 ho_147 hy_162 hp_162 hc_162 hi_162 hd_162 (List.mem_of_getElem? (i := 1987) (by decide +kernel)) hs_162 (by decide +kernel) rfl : e_Sn 147 5 (o_callS 162 6 3 8)) t_162_0 t_147_8
noncomputable def n_147_4 : e_Y := u_push (e_L 9223372036854775809) n_147_5
theorem t_147_4 : e_Sn 147 4 (e_un n_147_4) := u_pushT (s_lconst (n := 1) hq_147 (by decide +kernel) rfl ⟨by decide +kernel, by decide +kernel⟩ : e_Sn 147 4 (o_push (e_L 9223372036854775809) 5)) t_147_5
noncomputable def n_147_3 : e_Y := u_push (e_L 9223372036854775808) n_147_4
theorem t_147_3 : e_Sn 147 3 (e_un n_147_3) := u_pushT (s_lconst (n := 0) hq_147 (by decide +kernel) rfl ⟨by decide +kernel, by decide +kernel⟩ : e_Sn 147 3 (o_push (e_L 9223372036854775808) 4)) t_147_4
noncomputable def n_147_2 : e_Y := u_old (o_i2l 3) n_147_3
theorem t_147_2 : e_Sn 147 2 (e_un n_147_2) := u_oldT (s_i2l hq_147 (by decide +kernel) rfl : e_Sn 147 2 (o_i2l 3)) t_147_3 e_congr_i2l
noncomputable def n_147_1 : e_Y := u_ld f_okI f_l1 n_147_2
theorem t_147_1 : e_Sn 147 1 (e_un n_147_1) := u_ldIT f_l1_eq (s_iload (i := .iload_n 1) (len := 1) hq_147 (by decide +kernel) rfl (.inr ⟨1, rfl, rfl, rfl⟩) : e_Sn 147 1 (o_load e_okI 1 2)) t_147_2
noncomputable def n_147_0 : e_Y := u_ld f_okA f_l0 n_147_1
theorem t_147_0 : e_Sn 147 0 (e_un n_147_0) := u_ldAT f_l0_eq (s_aload (i := .aload_n 0) (len := 1) hq_147 (by decide +kernel) rfl (.inr ⟨0, rfl, rfl, rfl⟩) : e_Sn 147 0 (o_load e_okR 0 1)) t_147_1
noncomputable def e_tb_147 : e_X := (e_lf 0 (e_un n_147_0))
theorem e_tk_147 : e_Tb 147 e_tb_147 := (e_lfT t_147_0)
theorem hq_232 : (e_ml[232]?).map (·.2.1) = some prog_50_method_9_code := rfl
theorem ho_232 : (e_ml[232]?).map (·.1.cls) = some "java/util/ArrayList" := rfl
theorem hr_232 : (e_ml[232]?).map (·.2.2.2) = some (some .boolean) := rfl
noncomputable def n_232_12 : e_Y := u_tab (o_ret e_okZ)
theorem t_232_12 : e_Sn 232 12 (e_un n_232_12) := u_tabT (s_zret hq_232 hr_232 (by decide +kernel) : e_Sn 232 12 (o_ret e_okZ))
noncomputable def n_232_11 : e_Y := u_push (.inl 2147483648) n_232_12
theorem t_232_11 : e_Sn 232 11 (e_un n_232_11) := u_pushT (s_iconst (n := (0)) hq_232 (by decide +kernel) rfl ⟨by decide +kernel, by decide +kernel⟩ : e_Sn 232 11 (o_push (.inl 2147483648) 12)) t_232_12
noncomputable def n_232_8 : e_Y := n_232_12
theorem t_232_8 : e_Sn 232 8 (e_un n_232_8) := u_gotoT (s_goto (off := (4)) hq_232 (by decide +kernel) rfl : e_Sn 232 8 (o_goto 12)) t_232_12
noncomputable def n_232_7 : e_Y := u_push (.inl 2147483649) n_232_8
theorem t_232_7 : e_Sn 232 7 (e_un n_232_7) := u_pushT (s_iconst (n := (1)) hq_232 (by decide +kernel) rfl ⟨by decide +kernel, by decide +kernel⟩ : e_Sn 232 7 (o_push (.inl 2147483649) 8)) t_232_8
noncomputable def n_232_4 : e_Y := u_if y_ne0 (u_old2 (o_ifeq 7 11) 7 n_232_7 n_232_11) n_232_7 n_232_11
theorem t_232_4 : e_Sn 232 4 (e_un n_232_4) := u_ifeqT rfl (s_ifne (off := (7)) hq_232 (by decide +kernel) rfl rfl : e_Sn 232 4 (o_ifeq 7 11)) t_232_7 t_232_11
noncomputable def n_232_1 : e_Y := u_getf 19 1 (u_old (o_getf (e_f1 19 1) 4) n_232_4) n_232_4
theorem t_232_1 : e_Sn 232 1 (e_un n_232_1) := u_getfT (s_getf (C := er_19) (T := et_19) (N := 3) (ref := "java/util/ArrayList") (index := 48) (ci := 19) (k := 1) hq_232 ho_232 ⟨rfl, by decide, ei_19, (List.mem_of_getElem? (i := 1767) (by decide +kernel)), .inl rfl⟩ (by decide +kernel) rfl : e_Sn 232 1 (o_getf (e_f1 19 1) 4)) t_232_4
noncomputable def n_232_0 : e_Y := u_ld f_okA f_l0 n_232_1
theorem t_232_0 : e_Sn 232 0 (e_un n_232_0) := u_ldAT f_l0_eq (s_aload (i := .aload_n 0) (len := 1) hq_232 (by decide +kernel) rfl (.inr ⟨0, rfl, rfl, rfl⟩) : e_Sn 232 0 (o_load e_okR 0 1)) t_232_1
noncomputable def e_tb_232 : e_X := (e_lf 0 (e_un n_232_0))
theorem e_tk_232 : e_Tb 232 e_tb_232 := (e_lfT t_232_0)
theorem hq_149 : (e_ml[149]?).map (·.2.1) = some prog_14_method_28_code := rfl
theorem ho_149 : (e_ml[149]?).map (·.1.cls) = some "PlateroomprinterModel" := rfl
theorem hr_149 : (e_ml[149]?).map (·.2.2.2) = some (some .int) := rfl
noncomputable def n_149_40 : e_Y := u_retI
theorem t_149_40 : e_Sn 149 40 (e_un n_149_40) := u_retIT (s_iret hq_149 hr_149 (by decide +kernel) : e_Sn 149 40 (o_ret e_okI))
noncomputable def n_149_16 : e_Y := n_149_40
theorem t_149_16 : e_Sn 149 16 (e_un n_149_16) := u_gotoT (s_goto (off := (24)) hq_149 (by decide +kernel) rfl : e_Sn 149 16 (o_goto 40)) t_149_40
noncomputable def n_149_15 : e_Y := u_push (.inl 2147483648) n_149_16
theorem t_149_15 : e_Sn 149 15 (e_un n_149_15) := u_pushT (s_iconst (n := (0)) hq_149 (by decide +kernel) rfl ⟨by decide +kernel, by decide +kernel⟩ : e_Sn 149 15 (o_push (.inl 2147483648) 16)) t_149_16
noncomputable def n_149_12 : e_Y := u_if y_ne0 (u_old2 (o_ifeq 19 15) 19 (u_at 19) n_149_15) (u_at 19) n_149_15
theorem t_149_12 : e_Sn 149 12 (e_un n_149_12) := u_ifeqT rfl (s_ifeq (off := (7)) hq_149 (by decide +kernel) rfl rfl : e_Sn 149 12 (o_ifeq 19 15)) u_atT t_149_15
noncomputable def n_149_9 : e_Y := u_callV 12 195 3 22 3 n_195_0 n_149_12
theorem t_149_9 : e_Sn 149 9 (e_un n_149_9) := u_callVT rfl (s_callV (ci := 12) (C := er_12) (T := et_12) (N := 5) (index := 148) hq_149 ho_149 hy_195 hp_195 hc_195 hi_195 hd_195 (List.mem_of_getElem? (i := 1992) (by decide +kernel)) hs_195 (List.mem_of_getElem? (i := 73) (by decide +kernel)) rfl (by decide +kernel) rfl : e_Sn 149 9 (o_callV (e_s1 12 195 3) 3 12)) t_195_0 t_149_12
noncomputable def n_149_8 : e_Y := u_push (.inl 2147483649) n_149_9
theorem t_149_8 : e_Sn 149 8 (e_un n_149_8) := u_pushT (s_iconst (n := (1)) hq_149 (by decide +kernel) rfl ⟨by decide +kernel, by decide +kernel⟩ : e_Sn 149 8 (o_push (.inl 2147483649) 9)) t_149_9
noncomputable def n_149_5 : e_Y := u_callV 19 232 1 20 1 n_232_0 n_149_8
theorem t_149_5 : e_Sn 149 5 (e_un n_149_5) := u_callVT rfl (s_callV (ci := 19) (C := er_19) (T := et_19) (N := 3) (index := 151) hq_149 ho_149 hy_232 hp_232 hc_232 hi_232 hd_232 (List.mem_of_getElem? (i := 2013) (by decide +kernel)) hs_232 (List.mem_of_getElem? (i := 2015) (by decide +kernel)) rfl (by decide +kernel) rfl : e_Sn 149 5 (o_callV (e_s1 19 232 1) 1 8)) t_232_0 t_149_8
noncomputable def n_149_2 : e_Y := u_getf 12 2 (u_old (o_getf (e_f1 12 2) 5) n_149_5) n_149_5
theorem t_149_2 : e_Sn 149 2 (e_un n_149_2) := u_getfT (s_getf (C := er_12) (T := et_12) (N := 5) (ref := "PlateroomprinterModel") (index := 19) (ci := 12) (k := 2) hq_149 ho_149 ⟨rfl, by decide, ei_12, (List.mem_of_getElem? (i := 1960) (by decide +kernel)), .inl rfl⟩ (by decide +kernel) rfl : e_Sn 149 2 (o_getf (e_f1 12 2) 5)) t_149_5
noncomputable def n_149_1 : e_Y := u_ld f_okA f_l0 n_149_2
theorem t_149_1 : e_Sn 149 1 (e_un n_149_1) := u_ldAT f_l0_eq (s_aload (i := .aload_n 0) (len := 1) hq_149 (by decide +kernel) rfl (.inr ⟨0, rfl, rfl, rfl⟩) : e_Sn 149 1 (o_load e_okR 0 2)) t_149_2
noncomputable def n_149_0 : e_Y := u_ld f_okA f_l0 n_149_1
theorem t_149_0 : e_Sn 149 0 (e_un n_149_0) := u_ldAT f_l0_eq (s_aload (i := .aload_n 0) (len := 1) hq_149 (by decide +kernel) rfl (.inr ⟨0, rfl, rfl, rfl⟩) : e_Sn 149 0 (o_load e_okR 0 1)) t_149_1
noncomputable def e_tb_149 : e_X := (e_lf 0 (e_un n_149_0))
theorem e_tk_149 : e_Tb 149 e_tb_149 := (e_lfT t_149_0)
theorem hq_150 : (e_ml[150]?).map (·.2.1) = some prog_14_method_30_code := rfl
theorem ho_150 : (e_ml[150]?).map (·.1.cls) = some "PlateroomprinterModel" := rfl
theorem hr_150 : (e_ml[150]?).map (·.2.2.2) = some (some .int) := rfl
noncomputable def n_150_22 : e_Y := u_retI
theorem t_150_22 : e_Sn 150 22 (e_un n_150_22) := u_retIT (s_iret hq_150 hr_150 (by decide +kernel) : e_Sn 150 22 (o_ret e_okI))
noncomputable def n_150_21 : e_Y := u_ld f_okI f_l1 n_150_22
theorem t_150_21 : e_Sn 150 21 (e_un n_150_21) := u_ldIT f_l1_eq (s_iload (i := .iload_n 1) (len := 1) hq_150 (by decide +kernel) rfl (.inr ⟨1, rfl, rfl, rfl⟩) : e_Sn 150 21 (o_load e_okI 1 22)) t_150_22
noncomputable def n_150_20 : e_Y := u_old (o_ast 0 e_okI 21) n_150_21
theorem t_150_20 : e_Sn 150 20 (e_un n_150_20) := u_oldT (s_iast hq_150 (by decide +kernel) rfl : e_Sn 150 20 (o_ast 0 e_okI 21)) t_150_21 (e_cg_ast 0 e_okI)
noncomputable def n_150_19 : e_Y := u_ld f_okI f_l3 n_150_20
theorem t_150_19 : e_Sn 150 19 (e_un n_150_19) := u_ldIT f_l3_eq (s_iload (i := .iload_n 3) (len := 1) hq_150 (by decide +kernel) rfl (.inr ⟨3, rfl, rfl, rfl⟩) : e_Sn 150 19 (o_load e_okI 3 20)) t_150_20
noncomputable def n_150_18 : e_Y := u_push (.inl 2147483650) n_150_19
theorem t_150_18 : e_Sn 150 18 (e_un n_150_18) := u_pushT (s_iconst (n := (2)) hq_150 (by decide +kernel) rfl ⟨by decide +kernel, by decide +kernel⟩ : e_Sn 150 18 (o_push (.inl 2147483650) 19)) t_150_19
noncomputable def n_150_15 : e_Y := u_getf 12 3 (u_old (o_getf (e_f1 12 3) 18) n_150_18) n_150_18
theorem t_150_15 : e_Sn 150 15 (e_un n_150_15) := u_getfT (s_getf (C := er_12) (T := et_12) (N := 5) (ref := "PlateroomprinterModel") (index := 23) (ci := 12) (k := 3) hq_150 ho_150 ⟨rfl, by decide, ei_12, (List.mem_of_getElem? (i := 1961) (by decide +kernel)), .inl rfl⟩ (by decide +kernel) rfl : e_Sn 150 15 (o_getf (e_f1 12 3) 18)) t_150_18
noncomputable def n_150_14 : e_Y := u_ld f_okA f_l0 n_150_15
theorem t_150_14 : e_Sn 150 14 (e_un n_150_14) := u_ldAT f_l0_eq (s_aload (i := .aload_n 0) (len := 1) hq_150 (by decide +kernel) rfl (.inr ⟨0, rfl, rfl, rfl⟩) : e_Sn 150 14 (o_load e_okR 0 15)) t_150_15
noncomputable def n_150_13 : e_Y := u_old (o_ast 0 e_okI 14) n_150_14
theorem t_150_13 : e_Sn 150 13 (e_un n_150_13) := u_oldT (s_iast hq_150 (by decide +kernel) rfl : e_Sn 150 13 (o_ast 0 e_okI 14)) t_150_14 (e_cg_ast 0 e_okI)
noncomputable def n_150_12 : e_Y := u_ld f_okI f_l2 n_150_13
theorem t_150_12 : e_Sn 150 12 (e_un n_150_12) := u_ldIT f_l2_eq (s_iload (i := .iload_n 2) (len := 1) hq_150 (by decide +kernel) rfl (.inr ⟨2, rfl, rfl, rfl⟩) : e_Sn 150 12 (o_load e_okI 2 13)) t_150_13
noncomputable def n_150_11 : e_Y := u_push (.inl 2147483649) n_150_12
theorem t_150_11 : e_Sn 150 11 (e_un n_150_11) := u_pushT (s_iconst (n := (1)) hq_150 (by decide +kernel) rfl ⟨by decide +kernel, by decide +kernel⟩ : e_Sn 150 11 (o_push (.inl 2147483649) 12)) t_150_12
noncomputable def n_150_8 : e_Y := u_getf 12 3 (u_old (o_getf (e_f1 12 3) 11) n_150_11) n_150_11
theorem t_150_8 : e_Sn 150 8 (e_un n_150_8) := u_getfT (s_getf (C := er_12) (T := et_12) (N := 5) (ref := "PlateroomprinterModel") (index := 23) (ci := 12) (k := 3) hq_150 ho_150 ⟨rfl, by decide, ei_12, (List.mem_of_getElem? (i := 1961) (by decide +kernel)), .inl rfl⟩ (by decide +kernel) rfl : e_Sn 150 8 (o_getf (e_f1 12 3) 11)) t_150_11
noncomputable def n_150_7 : e_Y := u_ld f_okA f_l0 n_150_8
theorem t_150_7 : e_Sn 150 7 (e_un n_150_7) := u_ldAT f_l0_eq (s_aload (i := .aload_n 0) (len := 1) hq_150 (by decide +kernel) rfl (.inr ⟨0, rfl, rfl, rfl⟩) : e_Sn 150 7 (o_load e_okR 0 8)) t_150_8
noncomputable def n_150_6 : e_Y := u_old (o_ast 0 e_okI 7) n_150_7
theorem t_150_6 : e_Sn 150 6 (e_un n_150_6) := u_oldT (s_iast hq_150 (by decide +kernel) rfl : e_Sn 150 6 (o_ast 0 e_okI 7)) t_150_7 (e_cg_ast 0 e_okI)
noncomputable def n_150_5 : e_Y := u_ld f_okI f_l1 n_150_6
theorem t_150_5 : e_Sn 150 5 (e_un n_150_5) := u_ldIT f_l1_eq (s_iload (i := .iload_n 1) (len := 1) hq_150 (by decide +kernel) rfl (.inr ⟨1, rfl, rfl, rfl⟩) : e_Sn 150 5 (o_load e_okI 1 6)) t_150_6
noncomputable def n_150_4 : e_Y := u_push (.inl 2147483648) n_150_5
theorem t_150_4 : e_Sn 150 4 (e_un n_150_4) := u_pushT (s_iconst (n := (0)) hq_150 (by decide +kernel) rfl ⟨by decide +kernel, by decide +kernel⟩ : e_Sn 150 4 (o_push (.inl 2147483648) 5)) t_150_5
noncomputable def n_150_1 : e_Y := u_getf 12 3 (u_old (o_getf (e_f1 12 3) 4) n_150_4) n_150_4
theorem t_150_1 : e_Sn 150 1 (e_un n_150_1) := u_getfT (s_getf (C := er_12) (T := et_12) (N := 5) (ref := "PlateroomprinterModel") (index := 23) (ci := 12) (k := 3) hq_150 ho_150 ⟨rfl, by decide, ei_12, (List.mem_of_getElem? (i := 1961) (by decide +kernel)), .inl rfl⟩ (by decide +kernel) rfl : e_Sn 150 1 (o_getf (e_f1 12 3) 4)) t_150_4
noncomputable def n_150_0 : e_Y := u_ld f_okA f_l0 n_150_1
theorem t_150_0 : e_Sn 150 0 (e_un n_150_0) := u_ldAT f_l0_eq (s_aload (i := .aload_n 0) (len := 1) hq_150 (by decide +kernel) rfl (.inr ⟨0, rfl, rfl, rfl⟩) : e_Sn 150 0 (o_load e_okR 0 1)) t_150_1
noncomputable def e_tb_150 : e_X := (e_lf 0 (e_un n_150_0))
theorem e_tk_150 : e_Tb 150 e_tb_150 := (e_lfT t_150_0)
theorem hq_151 : (e_ml[151]?).map (·.2.1) = some prog_14_method_36_code := rfl
theorem ho_151 : (e_ml[151]?).map (·.1.cls) = some "PlateroomprinterModel" := rfl
theorem hr_151 : (e_ml[151]?).map (·.2.2.2) = some (some .int) := rfl
noncomputable def n_151_35 : e_Y := u_retI
theorem t_151_35 : e_Sn 151 35 (e_un n_151_35) := u_retIT (s_iret hq_151 hr_151 (by decide +kernel) : e_Sn 151 35 (o_ret e_okI))
noncomputable def n_151_34 : e_Y := u_ald 0 (u_old (o_ald e_fcs 35) n_151_35) n_151_35
theorem t_151_34 : e_Sn 151 34 (e_un n_151_34) := u_aldT (s_iald hq_151 (by decide +kernel) rfl : e_Sn 151 34 (o_ald e_fcs 35)) t_151_35
noncomputable def n_151_33 : e_Y := u_ld f_okI f_l1 n_151_34
theorem t_151_33 : e_Sn 151 33 (e_un n_151_33) := u_ldIT f_l1_eq (s_iload (i := .iload_n 1) (len := 1) hq_151 (by decide +kernel) rfl (.inr ⟨1, rfl, rfl, rfl⟩) : e_Sn 151 33 (o_load e_okI 1 34)) t_151_34
noncomputable def n_151_30 : e_Y := u_getf 12 3 (u_old (o_getf (e_f1 12 3) 33) n_151_33) n_151_33
theorem t_151_30 : e_Sn 151 30 (e_un n_151_30) := u_getfT (s_getf (C := er_12) (T := et_12) (N := 5) (ref := "PlateroomprinterModel") (index := 23) (ci := 12) (k := 3) hq_151 ho_151 ⟨rfl, by decide, ei_12, (List.mem_of_getElem? (i := 1961) (by decide +kernel)), .inl rfl⟩ (by decide +kernel) rfl : e_Sn 151 30 (o_getf (e_f1 12 3) 33)) t_151_33
noncomputable def n_151_29 : e_Y := u_ld f_okA f_l0 n_151_30
theorem t_151_29 : e_Sn 151 29 (e_un n_151_29) := u_ldAT f_l0_eq (s_aload (i := .aload_n 0) (len := 1) hq_151 (by decide +kernel) rfl (.inr ⟨0, rfl, rfl, rfl⟩) : e_Sn 151 29 (o_load e_okR 0 30)) t_151_30
noncomputable def n_151_26 : e_Y := n_151_35
theorem t_151_26 : e_Sn 151 26 (e_un n_151_26) := u_gotoT (s_goto (off := (9)) hq_151 (by decide +kernel) rfl : e_Sn 151 26 (o_goto 35)) t_151_35
noncomputable def n_151_25 : e_Y := u_push (.inl 2147483648) n_151_26
theorem t_151_25 : e_Sn 151 25 (e_un n_151_25) := u_pushT (s_iconst (n := (0)) hq_151 (by decide +kernel) rfl ⟨by decide +kernel, by decide +kernel⟩ : e_Sn 151 25 (o_push (.inl 2147483648) 26)) t_151_26
noncomputable def n_151_22 : e_Y := u_if y_ne0 (u_old2 (o_ifeq 29 25) 29 n_151_29 n_151_25) n_151_29 n_151_25
theorem t_151_22 : e_Sn 151 22 (e_un n_151_22) := u_ifeqT rfl (s_ifeq (off := (7)) hq_151 (by decide +kernel) rfl rfl : e_Sn 151 22 (o_ifeq 29 25)) t_151_29 t_151_25
noncomputable def n_151_19 : e_Y := u_callV 12 195 3 22 3 n_195_0 n_151_22
theorem t_151_19 : e_Sn 151 19 (e_un n_151_19) := u_callVT rfl (s_callV (ci := 12) (C := er_12) (T := et_12) (N := 5) (index := 148) hq_151 ho_151 hy_195 hp_195 hc_195 hi_195 hd_195 (List.mem_of_getElem? (i := 1992) (by decide +kernel)) hs_195 (List.mem_of_getElem? (i := 73) (by decide +kernel)) rfl (by decide +kernel) rfl : e_Sn 151 19 (o_callV (e_s1 12 195 3) 3 22)) t_195_0 t_151_22
noncomputable def n_151_18 : e_Y := u_push (.inl 2147483649) n_151_19
theorem t_151_18 : e_Sn 151 18 (e_un n_151_18) := u_pushT (s_iconst (n := (1)) hq_151 (by decide +kernel) rfl ⟨by decide +kernel, by decide +kernel⟩ : e_Sn 151 18 (o_push (.inl 2147483649) 19)) t_151_19
noncomputable def n_151_17 : e_Y := u_push (.inl 2147483648) n_151_18
theorem t_151_17 : e_Sn 151 17 (e_un n_151_17) := u_pushT (s_iconst (n := (0)) hq_151 (by decide +kernel) rfl ⟨by decide +kernel, by decide +kernel⟩ : e_Sn 151 17 (o_push (.inl 2147483648) 18)) t_151_18
noncomputable def n_151_14 : e_Y := n_151_18
theorem t_151_14 : e_Sn 151 14 (e_un n_151_14) := u_gotoT (s_goto (off := (4)) hq_151 (by decide +kernel) rfl : e_Sn 151 14 (o_goto 18)) t_151_18
noncomputable def n_151_13 : e_Y := u_push (.inl 2147483649) n_151_14
theorem t_151_13 : e_Sn 151 13 (e_un n_151_13) := u_pushT (s_iconst (n := (1)) hq_151 (by decide +kernel) rfl ⟨by decide +kernel, by decide +kernel⟩ : e_Sn 151 13 (o_push (.inl 2147483649) 14)) t_151_14
noncomputable def n_151_10 : e_Y := u_if y_ne0 (u_old2 (o_ifeq 13 17) 13 n_151_13 n_151_17) n_151_13 n_151_17
theorem t_151_10 : e_Sn 151 10 (e_un n_151_10) := u_ifeqT rfl (s_ifne (off := (7)) hq_151 (by decide +kernel) rfl rfl : e_Sn 151 10 (o_ifeq 13 17)) t_151_13 t_151_17
noncomputable def n_151_7 : e_Y := u_callS 162 6 25 3 n_162_0 n_151_10
theorem t_151_7 : e_Sn 151 7 (e_un n_151_7) := u_callST rfl (s_callS (index := 136) hq_151 ho_151 hy_162 hp_162 hc_162 hi_162 hd_162 (List.mem_of_getElem? (i := 1987) (by decide +kernel)) hs_162 (by decide +kernel) rfl : e_Sn 151 7 (o_callS 162 6 3 10)) t_162_0 t_151_10
noncomputable def n_151_4 : e_Y := u_push (e_L 9223372036854775810) n_151_7
theorem t_151_4 : e_Sn 151 4 (e_un n_151_4) := u_pushT (s_ldc2 (index := 69) (v := (2)) hq_151 ho_151 (List.mem_of_getElem? (i := 2377) (by decide +kernel)) (by decide +kernel) rfl ⟨by decide +kernel, by decide +kernel⟩ : e_Sn 151 4 (o_push (e_L 9223372036854775810) 7)) t_151_7
noncomputable def n_151_3 : e_Y := u_push (e_L 9223372036854775808) n_151_4
theorem t_151_3 : e_Sn 151 3 (e_un n_151_3) := u_pushT (s_lconst (n := 0) hq_151 (by decide +kernel) rfl ⟨by decide +kernel, by decide +kernel⟩ : e_Sn 151 3 (o_push (e_L 9223372036854775808) 4)) t_151_4
noncomputable def n_151_2 : e_Y := u_old (o_i2l 3) n_151_3
theorem t_151_2 : e_Sn 151 2 (e_un n_151_2) := u_oldT (s_i2l hq_151 (by decide +kernel) rfl : e_Sn 151 2 (o_i2l 3)) t_151_3 e_congr_i2l
noncomputable def n_151_1 : e_Y := u_ld f_okI f_l1 n_151_2
theorem t_151_1 : e_Sn 151 1 (e_un n_151_1) := u_ldIT f_l1_eq (s_iload (i := .iload_n 1) (len := 1) hq_151 (by decide +kernel) rfl (.inr ⟨1, rfl, rfl, rfl⟩) : e_Sn 151 1 (o_load e_okI 1 2)) t_151_2
noncomputable def n_151_0 : e_Y := u_ld f_okA f_l0 n_151_1
theorem t_151_0 : e_Sn 151 0 (e_un n_151_0) := u_ldAT f_l0_eq (s_aload (i := .aload_n 0) (len := 1) hq_151 (by decide +kernel) rfl (.inr ⟨0, rfl, rfl, rfl⟩) : e_Sn 151 0 (o_load e_okR 0 1)) t_151_1
noncomputable def e_tb_151 : e_X := (e_lf 0 (e_un n_151_0))
theorem e_tk_151 : e_Tb 151 e_tb_151 := (e_lfT t_151_0)
theorem hq_152 : (e_ml[152]?).map (·.2.1) = some prog_14_method_66_code := rfl
theorem ho_152 : (e_ml[152]?).map (·.1.cls) = some "PlateroomprinterModel" := rfl
theorem hr_152 : (e_ml[152]?).map (·.2.2.2) = some (some .int) := rfl
noncomputable def n_152_70 : e_Y := u_retI
theorem t_152_70 : e_Sn 152 70 (e_un n_152_70) := u_retIT (s_iret hq_152 hr_152 (by decide +kernel) : e_Sn 152 70 (o_ret e_okI))
noncomputable def n_152_61 : e_Y := n_152_70
theorem t_152_61 : e_Sn 152 61 (e_un n_152_61) := u_gotoT (s_goto (off := (9)) hq_152 (by decide +kernel) rfl : e_Sn 152 61 (o_goto 70)) t_152_70
noncomputable def n_152_60 : e_Y := u_push (.inl 2147483648) n_152_61
theorem t_152_60 : e_Sn 152 60 (e_un n_152_60) := u_pushT (s_iconst (n := (0)) hq_152 (by decide +kernel) rfl ⟨by decide +kernel, by decide +kernel⟩ : e_Sn 152 60 (o_push (.inl 2147483648) 61)) t_152_61
noncomputable def n_152_32 : e_Y := u_if y_ne0 (u_old2 (o_ifeq 35 60) 35 (u_at 35) n_152_60) (u_at 35) n_152_60
theorem t_152_32 : e_Sn 152 32 (e_un n_152_32) := u_ifeqT rfl (s_ifne (off := (28)) hq_152 (by decide +kernel) rfl rfl : e_Sn 152 32 (o_ifeq 35 60)) u_atT t_152_60
noncomputable def n_152_29 : e_Y := u_callV 12 195 3 22 3 n_195_0 n_152_32
theorem t_152_29 : e_Sn 152 29 (e_un n_152_29) := u_callVT rfl (s_callV (ci := 12) (C := er_12) (T := et_12) (N := 5) (index := 148) hq_152 ho_152 hy_195 hp_195 hc_195 hi_195 hd_195 (List.mem_of_getElem? (i := 1992) (by decide +kernel)) hs_195 (List.mem_of_getElem? (i := 73) (by decide +kernel)) rfl (by decide +kernel) rfl : e_Sn 152 29 (o_callV (e_s1 12 195 3) 3 32)) t_195_0 t_152_32
noncomputable def n_152_28 : e_Y := u_push (.inl 2147483649) n_152_29
theorem t_152_28 : e_Sn 152 28 (e_un n_152_28) := u_pushT (s_iconst (n := (1)) hq_152 (by decide +kernel) rfl ⟨by decide +kernel, by decide +kernel⟩ : e_Sn 152 28 (o_push (.inl 2147483649) 29)) t_152_29
noncomputable def n_152_24 : e_Y := n_152_28
theorem t_152_24 : e_Sn 152 24 (e_un n_152_24) := u_gotoT (s_goto (off := (4)) hq_152 (by decide +kernel) rfl : e_Sn 152 24 (o_goto 28)) t_152_28
noncomputable def n_152_23 : e_Y := u_push (.inl 2147483649) n_152_24
theorem t_152_23 : e_Sn 152 23 (e_un n_152_23) := u_pushT (s_iconst (n := (1)) hq_152 (by decide +kernel) rfl ⟨by decide +kernel, by decide +kernel⟩ : e_Sn 152 23 (o_push (.inl 2147483649) 24)) t_152_24
noncomputable def n_152_20 : e_Y := u_if y_ne0 (u_old2 (o_ifeq 23 27) 23 n_152_23 (u_at 27)) n_152_23 (u_at 27)
theorem t_152_20 : e_Sn 152 20 (e_un n_152_20) := u_ifeqT rfl (s_ifne (off := (7)) hq_152 (by decide +kernel) rfl rfl : e_Sn 152 20 (o_ifeq 23 27)) t_152_23 u_atT
noncomputable def n_152_17 : e_Y := u_callS 162 6 25 3 n_162_0 n_152_20
theorem t_152_17 : e_Sn 152 17 (e_un n_152_17) := u_callST rfl (s_callS (index := 136) hq_152 ho_152 hy_162 hp_162 hc_162 hi_162 hd_162 (List.mem_of_getElem? (i := 1987) (by decide +kernel)) hs_162 (by decide +kernel) rfl : e_Sn 152 17 (o_callS 162 6 3 20)) t_162_0 t_152_20
noncomputable def n_152_16 : e_Y := u_old (o_i2l 17) n_152_17
theorem t_152_16 : e_Sn 152 16 (e_un n_152_16) := u_oldT (s_i2l hq_152 (by decide +kernel) rfl : e_Sn 152 16 (o_i2l 17)) t_152_17 e_congr_i2l
noncomputable def n_152_15 : e_Y := u_bin a_isub (u_old (o_isub 16) n_152_16) n_152_16
theorem t_152_15 : e_Sn 152 15 (e_un n_152_15) := u_isubT (s_isub hq_152 (by decide +kernel) rfl : e_Sn 152 15 (o_isub 16)) t_152_16
noncomputable def n_152_14 : e_Y := u_push (.inl 2147483649) n_152_15
theorem t_152_14 : e_Sn 152 14 (e_un n_152_14) := u_pushT (s_iconst (n := (1)) hq_152 (by decide +kernel) rfl ⟨by decide +kernel, by decide +kernel⟩ : e_Sn 152 14 (o_push (.inl 2147483649) 15)) t_152_15
noncomputable def n_152_11 : e_Y := u_callV 19 236 1 20 1 n_236_0 n_152_14
theorem t_152_11 : e_Sn 152 11 (e_un n_152_11) := u_callVT rfl (s_callV (ci := 19) (C := er_19) (T := et_19) (N := 3) (index := 74) hq_152 ho_152 hy_236 hp_236 hc_236 hi_236 hd_236 (List.mem_of_getElem? (i := 2000) (by decide +kernel)) hs_236 (List.mem_of_getElem? (i := 2002) (by decide +kernel)) rfl (by decide +kernel) rfl : e_Sn 152 11 (o_callV (e_s1 19 236 1) 1 14)) t_236_0 t_152_14
noncomputable def n_152_8 : e_Y := u_getf 13 5 (u_old (o_getf (e_f1 13 5) 11) n_152_11) n_152_11
theorem t_152_8 : e_Sn 152 8 (e_un n_152_8) := u_getfT (s_getf (C := er_13) (T := et_13) (N := 13) (ref := "PlateroomprinterModel$Machine") (index := 311) (ci := 13) (k := 5) hq_152 ho_152 ⟨rfl, by decide, ei_13, (List.mem_of_getElem? (i := 1907) (by decide +kernel)), .inl rfl⟩ (by decide +kernel) rfl : e_Sn 152 8 (o_getf (e_f1 13 5) 11)) t_152_11
noncomputable def n_152_5 : e_Y := u_getf 12 1 (u_old (o_getf (e_f1 12 1) 8) n_152_8) n_152_8
theorem t_152_5 : e_Sn 152 5 (e_un n_152_5) := u_getfT (s_getf (C := er_12) (T := et_12) (N := 5) (ref := "PlateroomprinterModel") (index := 10) (ci := 12) (k := 1) hq_152 ho_152 ⟨rfl, by decide, ei_12, (List.mem_of_getElem? (i := 1959) (by decide +kernel)), .inl rfl⟩ (by decide +kernel) rfl : e_Sn 152 5 (o_getf (e_f1 12 1) 8)) t_152_8
noncomputable def n_152_4 : e_Y := u_ld f_okA f_l0 n_152_5
theorem t_152_4 : e_Sn 152 4 (e_un n_152_4) := u_ldAT f_l0_eq (s_aload (i := .aload_n 0) (len := 1) hq_152 (by decide +kernel) rfl (.inr ⟨0, rfl, rfl, rfl⟩) : e_Sn 152 4 (o_load e_okR 0 5)) t_152_5
noncomputable def n_152_3 : e_Y := u_push (e_L 9223372036854775808) n_152_4
theorem t_152_3 : e_Sn 152 3 (e_un n_152_3) := u_pushT (s_lconst (n := 0) hq_152 (by decide +kernel) rfl ⟨by decide +kernel, by decide +kernel⟩ : e_Sn 152 3 (o_push (e_L 9223372036854775808) 4)) t_152_4
noncomputable def n_152_2 : e_Y := u_old (o_i2l 3) n_152_3
theorem t_152_2 : e_Sn 152 2 (e_un n_152_2) := u_oldT (s_i2l hq_152 (by decide +kernel) rfl : e_Sn 152 2 (o_i2l 3)) t_152_3 e_congr_i2l
noncomputable def n_152_1 : e_Y := u_ld f_okI f_l1 n_152_2
theorem t_152_1 : e_Sn 152 1 (e_un n_152_1) := u_ldIT f_l1_eq (s_iload (i := .iload_n 1) (len := 1) hq_152 (by decide +kernel) rfl (.inr ⟨1, rfl, rfl, rfl⟩) : e_Sn 152 1 (o_load e_okI 1 2)) t_152_2
noncomputable def n_152_0 : e_Y := u_ld f_okA f_l0 n_152_1
theorem t_152_0 : e_Sn 152 0 (e_un n_152_0) := u_ldAT f_l0_eq (s_aload (i := .aload_n 0) (len := 1) hq_152 (by decide +kernel) rfl (.inr ⟨0, rfl, rfl, rfl⟩) : e_Sn 152 0 (o_load e_okR 0 1)) t_152_1
noncomputable def e_tb_152 : e_X := (e_lf 0 (e_un n_152_0))
theorem e_tk_152 : e_Tb 152 e_tb_152 := (e_lfT t_152_0)
theorem hq_153 : (e_ml[153]?).map (·.2.1) = some prog_14_method_64_code := rfl
theorem ho_153 : (e_ml[153]?).map (·.1.cls) = some "PlateroomprinterModel" := rfl
theorem hr_153 : (e_ml[153]?).map (·.2.2.2) = some (some .int) := rfl
noncomputable def n_153_15 : e_Y := u_retI
theorem t_153_15 : e_Sn 153 15 (e_un n_153_15) := u_retIT (s_iret hq_153 hr_153 (by decide +kernel) : e_Sn 153 15 (o_ret e_okI))
noncomputable def n_153_12 : e_Y := u_callV 19 236 1 20 1 n_236_0 n_153_15
theorem t_153_12 : e_Sn 153 12 (e_un n_153_12) := u_callVT rfl (s_callV (ci := 19) (C := er_19) (T := et_19) (N := 3) (index := 74) hq_153 ho_153 hy_236 hp_236 hc_236 hi_236 hd_236 (List.mem_of_getElem? (i := 2000) (by decide +kernel)) hs_236 (List.mem_of_getElem? (i := 2002) (by decide +kernel)) rfl (by decide +kernel) rfl : e_Sn 153 12 (o_callV (e_s1 19 236 1) 1 15)) t_236_0 t_153_15
noncomputable def n_153_9 : e_Y := u_getf 13 5 (u_old (o_getf (e_f1 13 5) 12) n_153_12) n_153_12
theorem t_153_9 : e_Sn 153 9 (e_un n_153_9) := u_getfT (s_getf (C := er_13) (T := et_13) (N := 13) (ref := "PlateroomprinterModel$Machine") (index := 311) (ci := 13) (k := 5) hq_153 ho_153 ⟨rfl, by decide, ei_13, (List.mem_of_getElem? (i := 1907) (by decide +kernel)), .inl rfl⟩ (by decide +kernel) rfl : e_Sn 153 9 (o_getf (e_f1 13 5) 12)) t_153_12
noncomputable def n_153_6 : e_Y := u_getf 12 1 (u_old (o_getf (e_f1 12 1) 9) n_153_9) n_153_9
theorem t_153_6 : e_Sn 153 6 (e_un n_153_6) := u_getfT (s_getf (C := er_12) (T := et_12) (N := 5) (ref := "PlateroomprinterModel") (index := 10) (ci := 12) (k := 1) hq_153 ho_153 ⟨rfl, by decide, ei_12, (List.mem_of_getElem? (i := 1959) (by decide +kernel)), .inl rfl⟩ (by decide +kernel) rfl : e_Sn 153 6 (o_getf (e_f1 12 1) 9)) t_153_9
noncomputable def n_153_5 : e_Y := u_ld f_okA f_l0 n_153_6
theorem t_153_5 : e_Sn 153 5 (e_un n_153_5) := u_ldAT f_l0_eq (s_aload (i := .aload_n 0) (len := 1) hq_153 (by decide +kernel) rfl (.inr ⟨0, rfl, rfl, rfl⟩) : e_Sn 153 5 (o_load e_okR 0 6)) t_153_6
noncomputable def n_153_2 : e_Y := u_old (o_putf (e_f1 12 0) e_okI 5) n_153_5
theorem t_153_2 : e_Sn 153 2 (e_un n_153_2) := u_oldT (s_putf (ty0 := ey_12) (ok := e_okI) (C := er_12) (T := et_12) (N := 5) (ref := "PlateroomprinterModel") (index := 124) (ci := 12) (k := 0) hq_153 ho_153 ⟨rfl, by decide, ei_12, (List.mem_of_getElem? (i := 1958) (by decide +kernel)), .inl rfl⟩ eo_12 en_12 e_oksI (.inl rfl) (by decide +kernel) rfl : e_Sn 153 2 (o_putf (e_f1 12 0) e_okI 5)) t_153_5 (e_cg_putf (e_f1 12 0) e_okI)
noncomputable def n_153_1 : e_Y := u_push (.inl 2147483648) n_153_2
theorem t_153_1 : e_Sn 153 1 (e_un n_153_1) := u_pushT (s_iconst (n := (0)) hq_153 (by decide +kernel) rfl ⟨by decide +kernel, by decide +kernel⟩ : e_Sn 153 1 (o_push (.inl 2147483648) 2)) t_153_2
noncomputable def n_153_0 : e_Y := u_ld f_okA f_l0 n_153_1
theorem t_153_0 : e_Sn 153 0 (e_un n_153_0) := u_ldAT f_l0_eq (s_aload (i := .aload_n 0) (len := 1) hq_153 (by decide +kernel) rfl (.inr ⟨0, rfl, rfl, rfl⟩) : e_Sn 153 0 (o_load e_okR 0 1)) t_153_1
noncomputable def e_tb_153 : e_X := (e_lf 0 (e_un n_153_0))
theorem e_tk_153 : e_Tb 153 e_tb_153 := (e_lfT t_153_0)
theorem hq_154 : (e_ml[154]?).map (·.2.1) = some prog_14_method_55_code := rfl
theorem ho_154 : (e_ml[154]?).map (·.1.cls) = some "PlateroomprinterModel" := rfl
theorem hr_154 : (e_ml[154]?).map (·.2.2.2) = some (some .int) := rfl
noncomputable def n_154_60 : e_Y := u_retI
theorem t_154_60 : e_Sn 154 60 (e_un n_154_60) := u_retIT (s_iret hq_154 hr_154 (by decide +kernel) : e_Sn 154 60 (o_ret e_okI))
noncomputable def n_154_57 : e_Y := u_callV 12 155 4 23 3 n_155_0 n_154_60
theorem t_154_57 : e_Sn 154 57 (e_un n_154_57) := u_callVT rfl (s_callV (ci := 12) (C := er_12) (T := et_12) (N := 5) (index := 283) hq_154 ho_154 hy_155 hp_155 hc_155 hi_155 hd_155 (List.mem_of_getElem? (i := 2998) (by decide +kernel)) hs_155 (List.mem_of_getElem? (i := 130) (by decide +kernel)) rfl (by decide +kernel) rfl : e_Sn 154 57 (o_callV (e_s1 12 155 4) 3 60)) t_155_0 t_154_60
noncomputable def n_154_56 : e_Y := u_ld f_okI f_l2 n_154_57
theorem t_154_56 : e_Sn 154 56 (e_un n_154_56) := u_ldIT f_l2_eq (s_iload (i := .iload_n 2) (len := 1) hq_154 (by decide +kernel) rfl (.inr ⟨2, rfl, rfl, rfl⟩) : e_Sn 154 56 (o_load e_okI 2 57)) t_154_57
noncomputable def n_154_55 : e_Y := u_ld f_okI f_l1 n_154_56
theorem t_154_55 : e_Sn 154 55 (e_un n_154_55) := u_ldIT f_l1_eq (s_iload (i := .iload_n 1) (len := 1) hq_154 (by decide +kernel) rfl (.inr ⟨1, rfl, rfl, rfl⟩) : e_Sn 154 55 (o_load e_okI 1 56)) t_154_56
noncomputable def n_154_54 : e_Y := u_ld f_okA f_l0 n_154_55
theorem t_154_54 : e_Sn 154 54 (e_un n_154_54) := u_ldAT f_l0_eq (s_aload (i := .aload_n 0) (len := 1) hq_154 (by decide +kernel) rfl (.inr ⟨0, rfl, rfl, rfl⟩) : e_Sn 154 54 (o_load e_okR 0 55)) t_154_55
noncomputable def n_154_51 : e_Y := n_154_60
theorem t_154_51 : e_Sn 154 51 (e_un n_154_51) := u_gotoT (s_goto (off := (9)) hq_154 (by decide +kernel) rfl : e_Sn 154 51 (o_goto 60)) t_154_60
noncomputable def n_154_50 : e_Y := u_push (.inl 2147483648) n_154_51
theorem t_154_50 : e_Sn 154 50 (e_un n_154_50) := u_pushT (s_iconst (n := (0)) hq_154 (by decide +kernel) rfl ⟨by decide +kernel, by decide +kernel⟩ : e_Sn 154 50 (o_push (.inl 2147483648) 51)) t_154_51
noncomputable def n_154_47 : e_Y := u_if y_ne0 (u_old2 (o_ifeq 54 50) 54 n_154_54 n_154_50) n_154_54 n_154_50
theorem t_154_47 : e_Sn 154 47 (e_un n_154_47) := u_ifeqT rfl (s_ifeq (off := (7)) hq_154 (by decide +kernel) rfl rfl : e_Sn 154 47 (o_ifeq 54 50)) t_154_54 t_154_50
noncomputable def n_154_44 : e_Y := u_callV 12 187 3 22 3 n_187_0 n_154_47
theorem t_154_44 : e_Sn 154 44 (e_un n_154_44) := u_callVT rfl (s_callV (ci := 12) (C := er_12) (T := et_12) (N := 5) (index := 128) hq_154 ho_154 hy_187 hp_187 hc_187 hi_187 hd_187 (List.mem_of_getElem? (i := 1996) (by decide +kernel)) hs_187 (List.mem_of_getElem? (i := 74) (by decide +kernel)) rfl (by decide +kernel) rfl : e_Sn 154 44 (o_callV (e_s1 12 187 3) 3 47)) t_187_0 t_154_47
noncomputable def n_154_43 : e_Y := u_push (.inl 2147483650) n_154_44
theorem t_154_43 : e_Sn 154 43 (e_un n_154_43) := u_pushT (s_iconst (n := (2)) hq_154 (by decide +kernel) rfl ⟨by decide +kernel, by decide +kernel⟩ : e_Sn 154 43 (o_push (.inl 2147483650) 44)) t_154_44
noncomputable def n_154_42 : e_Y := u_push (.inl 2147483648) n_154_43
theorem t_154_42 : e_Sn 154 42 (e_un n_154_42) := u_pushT (s_iconst (n := (0)) hq_154 (by decide +kernel) rfl ⟨by decide +kernel, by decide +kernel⟩ : e_Sn 154 42 (o_push (.inl 2147483648) 43)) t_154_43
noncomputable def n_154_39 : e_Y := n_154_43
theorem t_154_39 : e_Sn 154 39 (e_un n_154_39) := u_gotoT (s_goto (off := (4)) hq_154 (by decide +kernel) rfl : e_Sn 154 39 (o_goto 43)) t_154_43
noncomputable def n_154_38 : e_Y := u_push (.inl 2147483649) n_154_39
theorem t_154_38 : e_Sn 154 38 (e_un n_154_38) := u_pushT (s_iconst (n := (1)) hq_154 (by decide +kernel) rfl ⟨by decide +kernel, by decide +kernel⟩ : e_Sn 154 38 (o_push (.inl 2147483649) 39)) t_154_39
noncomputable def n_154_35 : e_Y := u_if y_ne0 (u_old2 (o_ifeq 38 42) 38 n_154_38 n_154_42) n_154_38 n_154_42
theorem t_154_35 : e_Sn 154 35 (e_un n_154_35) := u_ifeqT rfl (s_ifne (off := (7)) hq_154 (by decide +kernel) rfl rfl : e_Sn 154 35 (o_ifeq 38 42)) t_154_38 t_154_42
noncomputable def n_154_32 : e_Y := u_callS 162 6 25 3 n_162_0 n_154_35
theorem t_154_32 : e_Sn 154 32 (e_un n_154_32) := u_callST rfl (s_callS (index := 136) hq_154 ho_154 hy_162 hp_162 hc_162 hi_162 hd_162 (List.mem_of_getElem? (i := 1987) (by decide +kernel)) hs_162 (by decide +kernel) rfl : e_Sn 154 32 (o_callS 162 6 3 35)) t_162_0 t_154_35
noncomputable def n_154_29 : e_Y := u_push (e_L 9223372036854775810) n_154_32
theorem t_154_29 : e_Sn 154 29 (e_un n_154_29) := u_pushT (s_ldc2 (index := 69) (v := (2)) hq_154 ho_154 (List.mem_of_getElem? (i := 2377) (by decide +kernel)) (by decide +kernel) rfl ⟨by decide +kernel, by decide +kernel⟩ : e_Sn 154 29 (o_push (e_L 9223372036854775810) 32)) t_154_32
noncomputable def n_154_28 : e_Y := u_push (e_L 9223372036854775808) n_154_29
theorem t_154_28 : e_Sn 154 28 (e_un n_154_28) := u_pushT (s_lconst (n := 0) hq_154 (by decide +kernel) rfl ⟨by decide +kernel, by decide +kernel⟩ : e_Sn 154 28 (o_push (e_L 9223372036854775808) 29)) t_154_29
noncomputable def n_154_27 : e_Y := u_old (o_i2l 28) n_154_28
theorem t_154_27 : e_Sn 154 27 (e_un n_154_27) := u_oldT (s_i2l hq_154 (by decide +kernel) rfl : e_Sn 154 27 (o_i2l 28)) t_154_28 e_congr_i2l
noncomputable def n_154_26 : e_Y := u_ld f_okI f_l2 n_154_27
theorem t_154_26 : e_Sn 154 26 (e_un n_154_26) := u_ldIT f_l2_eq (s_iload (i := .iload_n 2) (len := 1) hq_154 (by decide +kernel) rfl (.inr ⟨2, rfl, rfl, rfl⟩) : e_Sn 154 26 (o_load e_okI 2 27)) t_154_27
noncomputable def n_154_25 : e_Y := u_ld f_okA f_l0 n_154_26
theorem t_154_25 : e_Sn 154 25 (e_un n_154_25) := u_ldAT f_l0_eq (s_aload (i := .aload_n 0) (len := 1) hq_154 (by decide +kernel) rfl (.inr ⟨0, rfl, rfl, rfl⟩) : e_Sn 154 25 (o_load e_okR 0 26)) t_154_26
noncomputable def n_154_22 : e_Y := u_if y_ne0 (u_old2 (o_ifeq 25 50) 25 n_154_25 n_154_50) n_154_25 n_154_50
theorem t_154_22 : e_Sn 154 22 (e_un n_154_22) := u_ifeqT rfl (s_ifne (off := (28)) hq_154 (by decide +kernel) rfl rfl : e_Sn 154 22 (o_ifeq 25 50)) t_154_25 t_154_50
noncomputable def n_154_19 : e_Y := u_callV 12 195 3 22 3 n_195_0 n_154_22
theorem t_154_19 : e_Sn 154 19 (e_un n_154_19) := u_callVT rfl (s_callV (ci := 12) (C := er_12) (T := et_12) (N := 5) (index := 148) hq_154 ho_154 hy_195 hp_195 hc_195 hi_195 hd_195 (List.mem_of_getElem? (i := 1992) (by decide +kernel)) hs_195 (List.mem_of_getElem? (i := 73) (by decide +kernel)) rfl (by decide +kernel) rfl : e_Sn 154 19 (o_callV (e_s1 12 195 3) 3 22)) t_195_0 t_154_22
noncomputable def n_154_18 : e_Y := u_push (.inl 2147483649) n_154_19
theorem t_154_18 : e_Sn 154 18 (e_un n_154_18) := u_pushT (s_iconst (n := (1)) hq_154 (by decide +kernel) rfl ⟨by decide +kernel, by decide +kernel⟩ : e_Sn 154 18 (o_push (.inl 2147483649) 19)) t_154_19
noncomputable def n_154_17 : e_Y := u_push (.inl 2147483648) n_154_18
theorem t_154_17 : e_Sn 154 17 (e_un n_154_17) := u_pushT (s_iconst (n := (0)) hq_154 (by decide +kernel) rfl ⟨by decide +kernel, by decide +kernel⟩ : e_Sn 154 17 (o_push (.inl 2147483648) 18)) t_154_18
noncomputable def n_154_14 : e_Y := n_154_18
theorem t_154_14 : e_Sn 154 14 (e_un n_154_14) := u_gotoT (s_goto (off := (4)) hq_154 (by decide +kernel) rfl : e_Sn 154 14 (o_goto 18)) t_154_18
noncomputable def n_154_13 : e_Y := u_push (.inl 2147483649) n_154_14
theorem t_154_13 : e_Sn 154 13 (e_un n_154_13) := u_pushT (s_iconst (n := (1)) hq_154 (by decide +kernel) rfl ⟨by decide +kernel, by decide +kernel⟩ : e_Sn 154 13 (o_push (.inl 2147483649) 14)) t_154_14
noncomputable def n_154_10 : e_Y := u_if y_ne0 (u_old2 (o_ifeq 13 17) 13 n_154_13 n_154_17) n_154_13 n_154_17
theorem t_154_10 : e_Sn 154 10 (e_un n_154_10) := u_ifeqT rfl (s_ifne (off := (7)) hq_154 (by decide +kernel) rfl rfl : e_Sn 154 10 (o_ifeq 13 17)) t_154_13 t_154_17
noncomputable def n_154_7 : e_Y := u_callS 162 6 25 3 n_162_0 n_154_10
theorem t_154_7 : e_Sn 154 7 (e_un n_154_7) := u_callST rfl (s_callS (index := 136) hq_154 ho_154 hy_162 hp_162 hc_162 hi_162 hd_162 (List.mem_of_getElem? (i := 1987) (by decide +kernel)) hs_162 (by decide +kernel) rfl : e_Sn 154 7 (o_callS 162 6 3 10)) t_162_0 t_154_10
noncomputable def n_154_4 : e_Y := u_push (e_L 9223372036854775812) n_154_7
theorem t_154_4 : e_Sn 154 4 (e_un n_154_4) := u_pushT (s_ldc2 (index := 281) (v := (4)) hq_154 ho_154 (List.mem_of_getElem? (i := 2997) (by decide +kernel)) (by decide +kernel) rfl ⟨by decide +kernel, by decide +kernel⟩ : e_Sn 154 4 (o_push (e_L 9223372036854775812) 7)) t_154_7
noncomputable def n_154_3 : e_Y := u_push (e_L 9223372036854775808) n_154_4
theorem t_154_3 : e_Sn 154 3 (e_un n_154_3) := u_pushT (s_lconst (n := 0) hq_154 (by decide +kernel) rfl ⟨by decide +kernel, by decide +kernel⟩ : e_Sn 154 3 (o_push (e_L 9223372036854775808) 4)) t_154_4
noncomputable def n_154_2 : e_Y := u_old (o_i2l 3) n_154_3
theorem t_154_2 : e_Sn 154 2 (e_un n_154_2) := u_oldT (s_i2l hq_154 (by decide +kernel) rfl : e_Sn 154 2 (o_i2l 3)) t_154_3 e_congr_i2l
noncomputable def n_154_1 : e_Y := u_ld f_okI f_l1 n_154_2
theorem t_154_1 : e_Sn 154 1 (e_un n_154_1) := u_ldIT f_l1_eq (s_iload (i := .iload_n 1) (len := 1) hq_154 (by decide +kernel) rfl (.inr ⟨1, rfl, rfl, rfl⟩) : e_Sn 154 1 (o_load e_okI 1 2)) t_154_2
noncomputable def n_154_0 : e_Y := u_ld f_okA f_l0 n_154_1
theorem t_154_0 : e_Sn 154 0 (e_un n_154_0) := u_ldAT f_l0_eq (s_aload (i := .aload_n 0) (len := 1) hq_154 (by decide +kernel) rfl (.inr ⟨0, rfl, rfl, rfl⟩) : e_Sn 154 0 (o_load e_okR 0 1)) t_154_1
noncomputable def e_tb_154 : e_X := (e_lf 0 (e_un n_154_0))
theorem e_tk_154 : e_Tb 154 e_tb_154 := (e_lfT t_154_0)
theorem hq_156 : (e_ml[156]?).map (·.2.1) = some prog_14_method_32_code := rfl
theorem ho_156 : (e_ml[156]?).map (·.1.cls) = some "PlateroomprinterModel" := rfl
theorem hr_156 : (e_ml[156]?).map (·.2.2.2) = some (some .int) := rfl
noncomputable def n_156_33 : e_Y := u_retI
theorem t_156_33 : e_Sn 156 33 (e_un n_156_33) := u_retIT (s_iret hq_156 hr_156 (by decide +kernel) : e_Sn 156 33 (o_ret e_okI))
noncomputable def n_156_32 : e_Y := u_ld f_okI f_l1 n_156_33
theorem t_156_32 : e_Sn 156 32 (e_un n_156_32) := u_ldIT f_l1_eq (s_iload (i := .iload_n 1) (len := 1) hq_156 (by decide +kernel) rfl (.inr ⟨1, rfl, rfl, rfl⟩) : e_Sn 156 32 (o_load e_okI 1 33)) t_156_33
noncomputable def n_156_31 : e_Y := u_pop n_156_32
theorem t_156_31 : e_Sn 156 31 (e_un n_156_31) := u_popT (s_pop hq_156 (by decide +kernel) rfl : e_Sn 156 31 (o_pop 32)) t_156_32
noncomputable def n_156_28 : e_Y := u_callV 12 150 4 23 4 n_150_0 n_156_31
theorem t_156_28 : e_Sn 156 28 (e_un n_156_28) := u_callVT rfl (s_callV (ci := 12) (C := er_12) (T := et_12) (N := 5) (index := 177) hq_156 ho_156 hy_150 hp_150 hc_150 hi_150 hd_150 (List.mem_of_getElem? (i := 2891) (by decide +kernel)) hs_150 (List.mem_of_getElem? (i := 121) (by decide +kernel)) rfl (by decide +kernel) rfl : e_Sn 156 28 (o_callV (e_s1 12 150 4) 4 31)) t_150_0 t_156_31
noncomputable def n_156_27 : e_Y := u_push (.inl 2147483647) n_156_28
theorem t_156_27 : e_Sn 156 27 (e_un n_156_27) := u_pushT (s_iconst (n := (-1)) hq_156 (by decide +kernel) rfl ⟨by decide +kernel, by decide +kernel⟩ : e_Sn 156 27 (o_push (.inl 2147483647) 28)) t_156_28
noncomputable def n_156_26 : e_Y := u_push (.inl 2147483647) n_156_27
theorem t_156_26 : e_Sn 156 26 (e_un n_156_26) := u_pushT (s_iconst (n := (-1)) hq_156 (by decide +kernel) rfl ⟨by decide +kernel, by decide +kernel⟩ : e_Sn 156 26 (o_push (.inl 2147483647) 27)) t_156_27
noncomputable def n_156_25 : e_Y := u_push (.inl 2147483648) n_156_26
theorem t_156_25 : e_Sn 156 25 (e_un n_156_25) := u_pushT (s_iconst (n := (0)) hq_156 (by decide +kernel) rfl ⟨by decide +kernel, by decide +kernel⟩ : e_Sn 156 25 (o_push (.inl 2147483648) 26)) t_156_26
noncomputable def n_156_24 : e_Y := u_ld f_okA f_l0 n_156_25
theorem t_156_24 : e_Sn 156 24 (e_un n_156_24) := u_ldAT f_l0_eq (s_aload (i := .aload_n 0) (len := 1) hq_156 (by decide +kernel) rfl (.inr ⟨0, rfl, rfl, rfl⟩) : e_Sn 156 24 (o_load e_okR 0 25)) t_156_25
noncomputable def n_156_21 : e_Y := u_old (o_putf (e_f1 12 1) e_okR 24) n_156_24
theorem t_156_21 : e_Sn 156 21 (e_un n_156_21) := u_oldT (s_putf (ty0 := ey_12) (ok := e_okR) (C := er_12) (T := et_12) (N := 5) (ref := "PlateroomprinterModel") (index := 10) (ci := 12) (k := 1) hq_156 ho_156 ⟨rfl, by decide, ei_12, (List.mem_of_getElem? (i := 1959) (by decide +kernel)), .inl rfl⟩ eo_12 en_12 e_oksR (.inl rfl) (by decide +kernel) rfl : e_Sn 156 21 (o_putf (e_f1 12 1) e_okR 24)) t_156_24 (e_cg_putf (e_f1 12 1) e_okR)
noncomputable def n_156_18 : e_Y := u_tab (o_callI 204 2 1 21)
theorem t_156_18 : e_Sn 156 18 (e_un n_156_18) := u_tabT (s_callI (index := 9) hq_156 ho_156 hy_204 hp_204 hc_204 hi_204 hd_204 (List.mem_of_getElem? (i := 1746) (by decide +kernel)) rfl rfl hs_204 (by decide +kernel) rfl : e_Sn 156 18 (o_callI 204 2 1 21))
noncomputable def n_156_17 : e_Y := u_old (o_dup 18) n_156_18
theorem t_156_17 : e_Sn 156 17 (e_un n_156_17) := u_oldT (s_dup hq_156 (by decide +kernel) rfl : e_Sn 156 17 (o_dup 18)) t_156_18 e_cg_dup
noncomputable def n_156_14 : e_Y := u_tab (o_new 13 13 ef_13 17)
theorem t_156_14 : e_Sn 156 14 (e_un n_156_14) := u_tabT (s_new (index := 7) (ci := 13) (N := 13) (C := er_13) (T := et_13) (ty0 := ey_13) (fv := eg_13) hq_156 ho_156 rfl ei_13 eo_13 (List.mem_of_getElem? (i := 1744) (by decide +kernel)) (List.mem_of_getElem? (i := 1745) (by decide +kernel)) (List.mem_of_getElem? (i := 152) (by decide +kernel)) eh_13 rfl (e_newrel ek_13) (by decide +kernel) rfl : e_Sn 156 14 (o_new 13 13 ef_13 17))
noncomputable def n_156_13 : e_Y := u_ld f_okA f_l0 n_156_14
theorem t_156_13 : e_Sn 156 13 (e_un n_156_13) := u_ldAT f_l0_eq (s_aload (i := .aload_n 0) (len := 1) hq_156 (by decide +kernel) rfl (.inr ⟨0, rfl, rfl, rfl⟩) : e_Sn 156 13 (o_load e_okR 0 14)) t_156_14
noncomputable def n_156_12 : e_Y := u_st f_okI f_s1 n_156_13
theorem t_156_12 : e_Sn 156 12 (e_un n_156_12) := u_stIT (fun _ _ _ => f_s1_eq) (s_istore (i := .istore_n 1) (len := 1) hq_156 (by decide +kernel) rfl (.inr ⟨1, rfl, rfl, rfl⟩) : e_Sn 156 12 (o_store e_okI 1 13)) t_156_13
noncomputable def n_156_9 : e_Y := u_getf 13 8 (u_old (o_getf (e_f1 13 8) 12) n_156_12) n_156_12
theorem t_156_9 : e_Sn 156 9 (e_un n_156_9) := u_getfT (s_getf (C := er_13) (T := et_13) (N := 13) (ref := "PlateroomprinterModel$Machine") (index := 181) (ci := 13) (k := 8) hq_156 ho_156 ⟨rfl, by decide, ei_13, (List.mem_of_getElem? (i := 1915) (by decide +kernel)), .inl rfl⟩ (by decide +kernel) rfl : e_Sn 156 9 (o_getf (e_f1 13 8) 12)) t_156_12
noncomputable def n_156_6 : e_Y := u_getf 12 1 (u_old (o_getf (e_f1 12 1) 9) n_156_9) n_156_9
theorem t_156_6 : e_Sn 156 6 (e_un n_156_6) := u_getfT (s_getf (C := er_12) (T := et_12) (N := 5) (ref := "PlateroomprinterModel") (index := 10) (ci := 12) (k := 1) hq_156 ho_156 ⟨rfl, by decide, ei_12, (List.mem_of_getElem? (i := 1959) (by decide +kernel)), .inl rfl⟩ (by decide +kernel) rfl : e_Sn 156 6 (o_getf (e_f1 12 1) 9)) t_156_9
noncomputable def n_156_5 : e_Y := u_ld f_okA f_l0 n_156_6
theorem t_156_5 : e_Sn 156 5 (e_un n_156_5) := u_ldAT f_l0_eq (s_aload (i := .aload_n 0) (len := 1) hq_156 (by decide +kernel) rfl (.inr ⟨0, rfl, rfl, rfl⟩) : e_Sn 156 5 (o_load e_okR 0 6)) t_156_6
noncomputable def n_156_2 : e_Y := u_old (o_putf (e_f1 12 0) e_okI 5) n_156_5
theorem t_156_2 : e_Sn 156 2 (e_un n_156_2) := u_oldT (s_putf (ty0 := ey_12) (ok := e_okI) (C := er_12) (T := et_12) (N := 5) (ref := "PlateroomprinterModel") (index := 124) (ci := 12) (k := 0) hq_156 ho_156 ⟨rfl, by decide, ei_12, (List.mem_of_getElem? (i := 1958) (by decide +kernel)), .inl rfl⟩ eo_12 en_12 e_oksI (.inl rfl) (by decide +kernel) rfl : e_Sn 156 2 (o_putf (e_f1 12 0) e_okI 5)) t_156_5 (e_cg_putf (e_f1 12 0) e_okI)
noncomputable def n_156_1 : e_Y := u_push (.inl 2147483648) n_156_2
theorem t_156_1 : e_Sn 156 1 (e_un n_156_1) := u_pushT (s_iconst (n := (0)) hq_156 (by decide +kernel) rfl ⟨by decide +kernel, by decide +kernel⟩ : e_Sn 156 1 (o_push (.inl 2147483648) 2)) t_156_2
noncomputable def n_156_0 : e_Y := u_ld f_okA f_l0 n_156_1
theorem t_156_0 : e_Sn 156 0 (e_un n_156_0) := u_ldAT f_l0_eq (s_aload (i := .aload_n 0) (len := 1) hq_156 (by decide +kernel) rfl (.inr ⟨0, rfl, rfl, rfl⟩) : e_Sn 156 0 (o_load e_okR 0 1)) t_156_1
noncomputable def e_tb_156 : e_X := (e_br 17 (e_lf 0 (e_un n_156_0)) (e_br 21 (e_lf 17 (e_un n_156_17)) (e_lf 21 (e_un n_156_21))))
theorem e_tk_156 : e_Tb 156 e_tb_156 := (e_brT (e_lfT t_156_0) (e_brT (e_lfT t_156_17) (e_lfT t_156_21)))
theorem hq_166 : (e_ml[166]?).map (·.2.1) = some prog_14_method_49_code := rfl
theorem ho_166 : (e_ml[166]?).map (·.1.cls) = some "PlateroomprinterModel" := rfl
theorem hr_166 : (e_ml[166]?).map (·.2.2.2) = some (some .boolean) := rfl
noncomputable def n_166_24 : e_Y := u_tab (o_ret e_okZ)
theorem t_166_24 : e_Sn 166 24 (e_un n_166_24) := u_tabT (s_zret hq_166 hr_166 (by decide +kernel) : e_Sn 166 24 (o_ret e_okZ))
noncomputable def n_166_20 : e_Y := n_166_24
theorem t_166_20 : e_Sn 166 20 (e_un n_166_20) := u_gotoT (s_goto (off := (4)) hq_166 (by decide +kernel) rfl : e_Sn 166 20 (o_goto 24)) t_166_24
noncomputable def n_166_19 : e_Y := u_push (.inl 2147483649) n_166_20
theorem t_166_19 : e_Sn 166 19 (e_un n_166_19) := u_pushT (s_iconst (n := (1)) hq_166 (by decide +kernel) rfl ⟨by decide +kernel, by decide +kernel⟩ : e_Sn 166 19 (o_push (.inl 2147483649) 20)) t_166_20
noncomputable def n_166_16 : e_Y := u_if y_ne0 (u_old2 (o_ifeq 19 23) 19 n_166_19 (u_at 23)) n_166_19 (u_at 23)
theorem t_166_16 : e_Sn 166 16 (e_un n_166_16) := u_ifeqT rfl (s_ifne (off := (7)) hq_166 (by decide +kernel) rfl rfl : e_Sn 166 16 (o_ifeq 19 23)) t_166_19 u_atT
noncomputable def n_166_13 : e_Y := u_callS 162 6 25 3 n_162_0 n_166_16
theorem t_166_13 : e_Sn 166 13 (e_un n_166_13) := u_callST rfl (s_callS (index := 136) hq_166 ho_166 hy_162 hp_162 hc_162 hi_162 hd_162 (List.mem_of_getElem? (i := 1987) (by decide +kernel)) hs_162 (by decide +kernel) rfl : e_Sn 166 13 (o_callS 162 6 3 16)) t_162_0 t_166_16
noncomputable def n_166_12 : e_Y := u_old (o_i2l 13) n_166_13
theorem t_166_12 : e_Sn 166 12 (e_un n_166_12) := u_oldT (s_i2l hq_166 (by decide +kernel) rfl : e_Sn 166 12 (o_i2l 13)) t_166_13 e_congr_i2l
noncomputable def n_166_11 : e_Y := u_bin a_isub (u_old (o_isub 12) n_166_12) n_166_12
theorem t_166_11 : e_Sn 166 11 (e_un n_166_11) := u_isubT (s_isub hq_166 (by decide +kernel) rfl : e_Sn 166 11 (o_isub 12)) t_166_12
noncomputable def n_166_10 : e_Y := u_push (.inl 2147483649) n_166_11
theorem t_166_10 : e_Sn 166 10 (e_un n_166_10) := u_pushT (s_iconst (n := (1)) hq_166 (by decide +kernel) rfl ⟨by decide +kernel, by decide +kernel⟩ : e_Sn 166 10 (o_push (.inl 2147483649) 11)) t_166_11
noncomputable def n_166_7 : e_Y := u_callV 19 236 1 20 1 n_236_0 n_166_10
theorem t_166_7 : e_Sn 166 7 (e_un n_166_7) := u_callVT rfl (s_callV (ci := 19) (C := er_19) (T := et_19) (N := 3) (index := 74) hq_166 ho_166 hy_236 hp_236 hc_236 hi_236 hd_236 (List.mem_of_getElem? (i := 2000) (by decide +kernel)) hs_236 (List.mem_of_getElem? (i := 2002) (by decide +kernel)) rfl (by decide +kernel) rfl : e_Sn 166 7 (o_callV (e_s1 19 236 1) 1 10)) t_236_0 t_166_10
noncomputable def n_166_4 : e_Y := u_callV 12 184 1 20 1 n_184_0 n_166_7
theorem t_166_4 : e_Sn 166 4 (e_un n_166_4) := u_callVT rfl (s_callV (ci := 12) (C := er_12) (T := et_12) (N := 5) (index := 261) hq_166 ho_166 hy_184 hp_184 hc_184 hi_184 hd_184 (List.mem_of_getElem? (i := 2977) (by decide +kernel)) hs_184 (List.mem_of_getElem? (i := 127) (by decide +kernel)) rfl (by decide +kernel) rfl : e_Sn 166 4 (o_callV (e_s1 12 184 1) 1 7)) t_184_0 t_166_7
noncomputable def n_166_3 : e_Y := u_ld f_okA f_l0 n_166_4
theorem t_166_3 : e_Sn 166 3 (e_un n_166_3) := u_ldAT f_l0_eq (s_aload (i := .aload_n 0) (len := 1) hq_166 (by decide +kernel) rfl (.inr ⟨0, rfl, rfl, rfl⟩) : e_Sn 166 3 (o_load e_okR 0 4)) t_166_4
noncomputable def n_166_2 : e_Y := u_push (e_L 9223372036854775808) n_166_3
theorem t_166_2 : e_Sn 166 2 (e_un n_166_2) := u_pushT (s_lconst (n := 0) hq_166 (by decide +kernel) rfl ⟨by decide +kernel, by decide +kernel⟩ : e_Sn 166 2 (o_push (e_L 9223372036854775808) 3)) t_166_3
noncomputable def n_166_1 : e_Y := u_old (o_i2l 2) n_166_2
theorem t_166_1 : e_Sn 166 1 (e_un n_166_1) := u_oldT (s_i2l hq_166 (by decide +kernel) rfl : e_Sn 166 1 (o_i2l 2)) t_166_2 e_congr_i2l
noncomputable def n_166_0 : e_Y := u_ld f_okI f_l1 n_166_1
theorem t_166_0 : e_Sn 166 0 (e_un n_166_0) := u_ldIT f_l1_eq (s_iload (i := .iload_n 1) (len := 1) hq_166 (by decide +kernel) rfl (.inr ⟨1, rfl, rfl, rfl⟩) : e_Sn 166 0 (o_load e_okI 1 1)) t_166_1
noncomputable def e_tb_166 : e_X := (e_lf 0 (e_un n_166_0))
theorem e_tk_166 : e_Tb 166 e_tb_166 := (e_lfT t_166_0)
theorem hq_165 : (e_ml[165]?).map (·.2.1) = some prog_14_method_52_code := rfl
theorem ho_165 : (e_ml[165]?).map (·.1.cls) = some "PlateroomprinterModel" := rfl
theorem hr_165 : (e_ml[165]?).map (·.2.2.2) = some (some .boolean) := rfl
noncomputable def n_165_42 : e_Y := u_tab (o_ret e_okZ)
theorem t_165_42 : e_Sn 165 42 (e_un n_165_42) := u_tabT (s_zret hq_165 hr_165 (by decide +kernel) : e_Sn 165 42 (o_ret e_okZ))
noncomputable def n_165_38 : e_Y := n_165_42
theorem t_165_38 : e_Sn 165 38 (e_un n_165_38) := u_gotoT (s_goto (off := (4)) hq_165 (by decide +kernel) rfl : e_Sn 165 38 (o_goto 42)) t_165_42
noncomputable def n_165_37 : e_Y := u_push (.inl 2147483649) n_165_38
theorem t_165_37 : e_Sn 165 37 (e_un n_165_37) := u_pushT (s_iconst (n := (1)) hq_165 (by decide +kernel) rfl ⟨by decide +kernel, by decide +kernel⟩ : e_Sn 165 37 (o_push (.inl 2147483649) 38)) t_165_38
noncomputable def n_165_5 : e_Y := u_if y_ne0 (u_old2 (o_ifeq 8 37) 8 (u_at 8) n_165_37) (u_at 8) n_165_37
theorem t_165_5 : e_Sn 165 5 (e_un n_165_5) := u_ifeqT rfl (s_ifne (off := (32)) hq_165 (by decide +kernel) rfl rfl : e_Sn 165 5 (o_ifeq 8 37)) u_atT t_165_37
noncomputable def n_165_2 : e_Y := u_callV 12 166 2 21 2 n_166_0 n_165_5
theorem t_165_2 : e_Sn 165 2 (e_un n_165_2) := u_callVT rfl (s_callV (ci := 12) (C := er_12) (T := et_12) (N := 5) (index := 268) hq_165 ho_165 hy_166 hp_166 hc_166 hi_166 hd_166 (List.mem_of_getElem? (i := 2973) (by decide +kernel)) hs_166 (List.mem_of_getElem? (i := 126) (by decide +kernel)) rfl (by decide +kernel) rfl : e_Sn 165 2 (o_callV (e_s1 12 166 2) 2 5)) t_166_0 t_165_5
noncomputable def n_165_1 : e_Y := u_ld f_okI f_l1 n_165_2
theorem t_165_1 : e_Sn 165 1 (e_un n_165_1) := u_ldIT f_l1_eq (s_iload (i := .iload_n 1) (len := 1) hq_165 (by decide +kernel) rfl (.inr ⟨1, rfl, rfl, rfl⟩) : e_Sn 165 1 (o_load e_okI 1 2)) t_165_2
noncomputable def n_165_0 : e_Y := u_ld f_okA f_l0 n_165_1
theorem t_165_0 : e_Sn 165 0 (e_un n_165_0) := u_ldAT f_l0_eq (s_aload (i := .aload_n 0) (len := 1) hq_165 (by decide +kernel) rfl (.inr ⟨0, rfl, rfl, rfl⟩) : e_Sn 165 0 (o_load e_okR 0 1)) t_165_1
noncomputable def e_tb_165 : e_X := (e_lf 0 (e_un n_165_0))
theorem e_tk_165 : e_Tb 165 e_tb_165 := (e_lfT t_165_0)
theorem hq_157 : (e_ml[157]?).map (·.2.1) = some prog_14_method_63_code := rfl
theorem ho_157 : (e_ml[157]?).map (·.1.cls) = some "PlateroomprinterModel" := rfl
theorem hr_157 : (e_ml[157]?).map (·.2.2.2) = some (some .int) := rfl
noncomputable def n_157_63 : e_Y := u_retI
theorem t_157_63 : e_Sn 157 63 (e_un n_157_63) := u_retIT (s_iret hq_157 hr_157 (by decide +kernel) : e_Sn 157 63 (o_ret e_okI))
noncomputable def n_157_62 : e_Y := u_push (.inl 2147483648) n_157_63
theorem t_157_62 : e_Sn 157 62 (e_un n_157_62) := u_pushT (s_iconst (n := (0)) hq_157 (by decide +kernel) rfl ⟨by decide +kernel, by decide +kernel⟩ : e_Sn 157 62 (o_push (.inl 2147483648) 63)) t_157_63
noncomputable def n_157_28 : e_Y := u_if y_ne0 (u_old2 (o_ifeq 31 62) 31 (u_at 31) n_157_62) (u_at 31) n_157_62
theorem t_157_28 : e_Sn 157 28 (e_un n_157_28) := u_ifeqT rfl (s_ifne (off := (34)) hq_157 (by decide +kernel) rfl rfl : e_Sn 157 28 (o_ifeq 31 62)) u_atT t_157_62
noncomputable def n_157_25 : e_Y := u_callV 12 195 3 22 3 n_195_0 n_157_28
theorem t_157_25 : e_Sn 157 25 (e_un n_157_25) := u_callVT rfl (s_callV (ci := 12) (C := er_12) (T := et_12) (N := 5) (index := 148) hq_157 ho_157 hy_195 hp_195 hc_195 hi_195 hd_195 (List.mem_of_getElem? (i := 1992) (by decide +kernel)) hs_195 (List.mem_of_getElem? (i := 73) (by decide +kernel)) rfl (by decide +kernel) rfl : e_Sn 157 25 (o_callV (e_s1 12 195 3) 3 28)) t_195_0 t_157_28
noncomputable def n_157_24 : e_Y := u_push (.inl 2147483649) n_157_25
theorem t_157_24 : e_Sn 157 24 (e_un n_157_24) := u_pushT (s_iconst (n := (1)) hq_157 (by decide +kernel) rfl ⟨by decide +kernel, by decide +kernel⟩ : e_Sn 157 24 (o_push (.inl 2147483649) 25)) t_157_25
noncomputable def n_157_20 : e_Y := n_157_24
theorem t_157_20 : e_Sn 157 20 (e_un n_157_20) := u_gotoT (s_goto (off := (4)) hq_157 (by decide +kernel) rfl : e_Sn 157 20 (o_goto 24)) t_157_24
noncomputable def n_157_19 : e_Y := u_push (.inl 2147483649) n_157_20
theorem t_157_19 : e_Sn 157 19 (e_un n_157_19) := u_pushT (s_iconst (n := (1)) hq_157 (by decide +kernel) rfl ⟨by decide +kernel, by decide +kernel⟩ : e_Sn 157 19 (o_push (.inl 2147483649) 20)) t_157_20
noncomputable def n_157_7 : e_Y := u_if y_ne0 (u_old2 (o_ifeq 10 19) 10 (u_at 10) n_157_19) (u_at 10) n_157_19
theorem t_157_7 : e_Sn 157 7 (e_un n_157_7) := u_ifeqT rfl (s_ifne (off := (12)) hq_157 (by decide +kernel) rfl rfl : e_Sn 157 7 (o_ifeq 10 19)) u_atT t_157_19
noncomputable def n_157_4 : e_Y := u_callV 12 165 3 22 3 n_165_0 n_157_7
theorem t_157_4 : e_Sn 157 4 (e_un n_157_4) := u_callVT rfl (s_callV (ci := 12) (C := er_12) (T := et_12) (N := 5) (index := 275) hq_157 ho_157 hy_165 hp_165 hc_165 hi_165 hd_165 (List.mem_of_getElem? (i := 2989) (by decide +kernel)) hs_165 (List.mem_of_getElem? (i := 129) (by decide +kernel)) rfl (by decide +kernel) rfl : e_Sn 157 4 (o_callV (e_s1 12 165 3) 3 7)) t_165_0 t_157_7
noncomputable def n_157_3 : e_Y := u_ld f_okI f_l2 n_157_4
theorem t_157_3 : e_Sn 157 3 (e_un n_157_3) := u_ldIT f_l2_eq (s_iload (i := .iload_n 2) (len := 1) hq_157 (by decide +kernel) rfl (.inr ⟨2, rfl, rfl, rfl⟩) : e_Sn 157 3 (o_load e_okI 2 4)) t_157_4
noncomputable def n_157_2 : e_Y := u_ld f_okI f_l1 n_157_3
theorem t_157_2 : e_Sn 157 2 (e_un n_157_2) := u_ldIT f_l1_eq (s_iload (i := .iload_n 1) (len := 1) hq_157 (by decide +kernel) rfl (.inr ⟨1, rfl, rfl, rfl⟩) : e_Sn 157 2 (o_load e_okI 1 3)) t_157_3
noncomputable def n_157_1 : e_Y := u_ld f_okA f_l0 n_157_2
theorem t_157_1 : e_Sn 157 1 (e_un n_157_1) := u_ldAT f_l0_eq (s_aload (i := .aload_n 0) (len := 1) hq_157 (by decide +kernel) rfl (.inr ⟨0, rfl, rfl, rfl⟩) : e_Sn 157 1 (o_load e_okR 0 2)) t_157_2
noncomputable def n_157_0 : e_Y := u_ld f_okA f_l0 n_157_1
theorem t_157_0 : e_Sn 157 0 (e_un n_157_0) := u_ldAT f_l0_eq (s_aload (i := .aload_n 0) (len := 1) hq_157 (by decide +kernel) rfl (.inr ⟨0, rfl, rfl, rfl⟩) : e_Sn 157 0 (o_load e_okR 0 1)) t_157_1
noncomputable def e_tb_157 : e_X := (e_lf 0 (e_un n_157_0))
theorem e_tk_157 : e_Tb 157 e_tb_157 := (e_lfT t_157_0)
theorem hq_158 : (e_ml[158]?).map (·.2.1) = some prog_14_method_57_code := rfl
theorem ho_158 : (e_ml[158]?).map (·.1.cls) = some "PlateroomprinterModel" := rfl
theorem hr_158 : (e_ml[158]?).map (·.2.2.2) = some (some .boolean) := rfl
noncomputable def n_158_54 : e_Y := u_tab (o_ret e_okZ)
theorem t_158_54 : e_Sn 158 54 (e_un n_158_54) := u_tabT (s_zret hq_158 hr_158 (by decide +kernel) : e_Sn 158 54 (o_ret e_okZ))
noncomputable def n_158_53 : e_Y := u_push (.inl 2147483648) n_158_54
theorem t_158_53 : e_Sn 158 53 (e_un n_158_53) := u_pushT (s_iconst (n := (0)) hq_158 (by decide +kernel) rfl ⟨by decide +kernel, by decide +kernel⟩ : e_Sn 158 53 (o_push (.inl 2147483648) 54)) t_158_54
noncomputable def n_158_46 : e_Y := u_if y_ne0 (u_old2 (o_ifeq 53 49) 53 n_158_53 (u_at 49)) n_158_53 (u_at 49)
theorem t_158_46 : e_Sn 158 46 (e_un n_158_46) := u_ifeqT rfl (s_ifeq (off := (7)) hq_158 (by decide +kernel) rfl rfl : e_Sn 158 46 (o_ifeq 53 49)) t_158_53 u_atT
noncomputable def n_158_43 : e_Y := u_callS 159 10 29 4 n_159_0 n_158_46
theorem t_158_43 : e_Sn 158 43 (e_un n_158_43) := u_callST rfl (s_callS (index := 103) hq_158 ho_158 hy_159 hp_159 hc_159 hi_159 hd_159 (List.mem_of_getElem? (i := 2466) (by decide +kernel)) hs_159 (by decide +kernel) rfl : e_Sn 158 43 (o_callS 159 10 4 46)) t_159_0 t_158_46
noncomputable def n_158_42 : e_Y := u_ld f_okI f_l2 n_158_43
theorem t_158_42 : e_Sn 158 42 (e_un n_158_42) := u_ldIT f_l2_eq (s_iload (i := .iload_n 2) (len := 1) hq_158 (by decide +kernel) rfl (.inr ⟨2, rfl, rfl, rfl⟩) : e_Sn 158 42 (o_load e_okI 2 43)) t_158_43
noncomputable def n_158_41 : e_Y := u_ld f_okI f_l1 n_158_42
theorem t_158_41 : e_Sn 158 41 (e_un n_158_41) := u_ldIT f_l1_eq (s_iload (i := .iload_n 1) (len := 1) hq_158 (by decide +kernel) rfl (.inr ⟨1, rfl, rfl, rfl⟩) : e_Sn 158 41 (o_load e_okI 1 42)) t_158_42
noncomputable def n_158_40 : e_Y := u_ld f_okI f_l3 n_158_41
theorem t_158_40 : e_Sn 158 40 (e_un n_158_40) := u_ldIT f_l3_eq (s_iload (i := .iload_n 3) (len := 1) hq_158 (by decide +kernel) rfl (.inr ⟨3, rfl, rfl, rfl⟩) : e_Sn 158 40 (o_load e_okI 3 41)) t_158_41
noncomputable def n_158_37 : e_Y := u_callV 12 184 1 20 1 n_184_0 n_158_40
theorem t_158_37 : e_Sn 158 37 (e_un n_158_37) := u_callVT rfl (s_callV (ci := 12) (C := er_12) (T := et_12) (N := 5) (index := 261) hq_158 ho_158 hy_184 hp_184 hc_184 hi_184 hd_184 (List.mem_of_getElem? (i := 2977) (by decide +kernel)) hs_184 (List.mem_of_getElem? (i := 127) (by decide +kernel)) rfl (by decide +kernel) rfl : e_Sn 158 37 (o_callV (e_s1 12 184 1) 1 40)) t_184_0 t_158_40
noncomputable def n_158_36 : e_Y := u_ld f_okA f_l0 n_158_37
theorem t_158_36 : e_Sn 158 36 (e_un n_158_36) := u_ldAT f_l0_eq (s_aload (i := .aload_n 0) (len := 1) hq_158 (by decide +kernel) rfl (.inr ⟨0, rfl, rfl, rfl⟩) : e_Sn 158 36 (o_load e_okR 0 37)) t_158_37
noncomputable def n_158_33 : e_Y := u_if y_ne0 (u_old2 (o_ifeq 36 53) 36 n_158_36 n_158_53) n_158_36 n_158_53
theorem t_158_33 : e_Sn 158 33 (e_un n_158_33) := u_ifeqT rfl (s_ifne (off := (20)) hq_158 (by decide +kernel) rfl rfl : e_Sn 158 33 (o_ifeq 36 53)) t_158_36 t_158_53
noncomputable def n_158_30 : e_Y := u_callV 12 187 3 22 3 n_187_0 n_158_33
theorem t_158_30 : e_Sn 158 30 (e_un n_158_30) := u_callVT rfl (s_callV (ci := 12) (C := er_12) (T := et_12) (N := 5) (index := 128) hq_158 ho_158 hy_187 hp_187 hc_187 hi_187 hd_187 (List.mem_of_getElem? (i := 1996) (by decide +kernel)) hs_187 (List.mem_of_getElem? (i := 74) (by decide +kernel)) rfl (by decide +kernel) rfl : e_Sn 158 30 (o_callV (e_s1 12 187 3) 3 33)) t_187_0 t_158_33
noncomputable def n_158_29 : e_Y := u_push (.inl 2147483650) n_158_30
theorem t_158_29 : e_Sn 158 29 (e_un n_158_29) := u_pushT (s_iconst (n := (2)) hq_158 (by decide +kernel) rfl ⟨by decide +kernel, by decide +kernel⟩ : e_Sn 158 29 (o_push (.inl 2147483650) 30)) t_158_30
noncomputable def n_158_28 : e_Y := u_push (.inl 2147483648) n_158_29
theorem t_158_28 : e_Sn 158 28 (e_un n_158_28) := u_pushT (s_iconst (n := (0)) hq_158 (by decide +kernel) rfl ⟨by decide +kernel, by decide +kernel⟩ : e_Sn 158 28 (o_push (.inl 2147483648) 29)) t_158_29
noncomputable def n_158_25 : e_Y := n_158_29
theorem t_158_25 : e_Sn 158 25 (e_un n_158_25) := u_gotoT (s_goto (off := (4)) hq_158 (by decide +kernel) rfl : e_Sn 158 25 (o_goto 29)) t_158_29
noncomputable def n_158_24 : e_Y := u_push (.inl 2147483649) n_158_25
theorem t_158_24 : e_Sn 158 24 (e_un n_158_24) := u_pushT (s_iconst (n := (1)) hq_158 (by decide +kernel) rfl ⟨by decide +kernel, by decide +kernel⟩ : e_Sn 158 24 (o_push (.inl 2147483649) 25)) t_158_25
noncomputable def n_158_21 : e_Y := u_if y_ne0 (u_old2 (o_ifeq 24 28) 24 n_158_24 n_158_28) n_158_24 n_158_28
theorem t_158_21 : e_Sn 158 21 (e_un n_158_21) := u_ifeqT rfl (s_ifne (off := (7)) hq_158 (by decide +kernel) rfl rfl : e_Sn 158 21 (o_ifeq 24 28)) t_158_24 t_158_28
noncomputable def n_158_18 : e_Y := u_callS 162 6 25 3 n_162_0 n_158_21
theorem t_158_18 : e_Sn 158 18 (e_un n_158_18) := u_callST rfl (s_callS (index := 136) hq_158 ho_158 hy_162 hp_162 hc_162 hi_162 hd_162 (List.mem_of_getElem? (i := 1987) (by decide +kernel)) hs_162 (by decide +kernel) rfl : e_Sn 158 18 (o_callS 162 6 3 21)) t_162_0 t_158_21
noncomputable def n_158_17 : e_Y := u_push (e_L 9223372036854775809) n_158_18
theorem t_158_17 : e_Sn 158 17 (e_un n_158_17) := u_pushT (s_lconst (n := 1) hq_158 (by decide +kernel) rfl ⟨by decide +kernel, by decide +kernel⟩ : e_Sn 158 17 (o_push (e_L 9223372036854775809) 18)) t_158_18
noncomputable def n_158_16 : e_Y := u_push (e_L 9223372036854775808) n_158_17
theorem t_158_16 : e_Sn 158 16 (e_un n_158_16) := u_pushT (s_lconst (n := 0) hq_158 (by decide +kernel) rfl ⟨by decide +kernel, by decide +kernel⟩ : e_Sn 158 16 (o_push (e_L 9223372036854775808) 17)) t_158_17
noncomputable def n_158_15 : e_Y := u_old (o_i2l 16) n_158_16
theorem t_158_15 : e_Sn 158 15 (e_un n_158_15) := u_oldT (s_i2l hq_158 (by decide +kernel) rfl : e_Sn 158 15 (o_i2l 16)) t_158_16 e_congr_i2l
noncomputable def n_158_14 : e_Y := u_ld f_okI f_l3 n_158_15
theorem t_158_14 : e_Sn 158 14 (e_un n_158_14) := u_ldIT f_l3_eq (s_iload (i := .iload_n 3) (len := 1) hq_158 (by decide +kernel) rfl (.inr ⟨3, rfl, rfl, rfl⟩) : e_Sn 158 14 (o_load e_okI 3 15)) t_158_15
noncomputable def n_158_13 : e_Y := u_ld f_okA f_l0 n_158_14
theorem t_158_13 : e_Sn 158 13 (e_un n_158_13) := u_ldAT f_l0_eq (s_aload (i := .aload_n 0) (len := 1) hq_158 (by decide +kernel) rfl (.inr ⟨0, rfl, rfl, rfl⟩) : e_Sn 158 13 (o_load e_okR 0 14)) t_158_14
noncomputable def n_158_10 : e_Y := u_if y_ne0 (u_old2 (o_ifeq 13 53) 13 n_158_13 n_158_53) n_158_13 n_158_53
theorem t_158_10 : e_Sn 158 10 (e_un n_158_10) := u_ifeqT rfl (s_ifne (off := (43)) hq_158 (by decide +kernel) rfl rfl : e_Sn 158 10 (o_ifeq 13 53)) t_158_13 t_158_53
noncomputable def n_158_7 : e_Y := u_callV 12 195 3 22 3 n_195_0 n_158_10
theorem t_158_7 : e_Sn 158 7 (e_un n_158_7) := u_callVT rfl (s_callV (ci := 12) (C := er_12) (T := et_12) (N := 5) (index := 148) hq_158 ho_158 hy_195 hp_195 hc_195 hi_195 hd_195 (List.mem_of_getElem? (i := 1992) (by decide +kernel)) hs_195 (List.mem_of_getElem? (i := 73) (by decide +kernel)) rfl (by decide +kernel) rfl : e_Sn 158 7 (o_callV (e_s1 12 195 3) 3 10)) t_195_0 t_158_10
noncomputable def n_158_6 : e_Y := u_push (.inl 2147483649) n_158_7
theorem t_158_6 : e_Sn 158 6 (e_un n_158_6) := u_pushT (s_iconst (n := (1)) hq_158 (by decide +kernel) rfl ⟨by decide +kernel, by decide +kernel⟩ : e_Sn 158 6 (o_push (.inl 2147483649) 7)) t_158_7
noncomputable def n_158_3 : e_Y := u_callS 163 2 21 2 n_163_0 n_158_6
theorem t_158_3 : e_Sn 158 3 (e_un n_158_3) := u_callST rfl (s_callS (index := 288) hq_158 ho_158 hy_163 hp_163 hc_163 hi_163 hd_163 (List.mem_of_getElem? (i := 3006) (by decide +kernel)) hs_163 (by decide +kernel) rfl : e_Sn 158 3 (o_callS 163 2 2 6)) t_163_0 t_158_6
noncomputable def n_158_2 : e_Y := u_ld f_okI f_l2 n_158_3
theorem t_158_2 : e_Sn 158 2 (e_un n_158_2) := u_ldIT f_l2_eq (s_iload (i := .iload_n 2) (len := 1) hq_158 (by decide +kernel) rfl (.inr ⟨2, rfl, rfl, rfl⟩) : e_Sn 158 2 (o_load e_okI 2 3)) t_158_3
noncomputable def n_158_1 : e_Y := u_ld f_okI f_l1 n_158_2
theorem t_158_1 : e_Sn 158 1 (e_un n_158_1) := u_ldIT f_l1_eq (s_iload (i := .iload_n 1) (len := 1) hq_158 (by decide +kernel) rfl (.inr ⟨1, rfl, rfl, rfl⟩) : e_Sn 158 1 (o_load e_okI 1 2)) t_158_2
noncomputable def n_158_0 : e_Y := u_ld f_okA f_l0 n_158_1
theorem t_158_0 : e_Sn 158 0 (e_un n_158_0) := u_ldAT f_l0_eq (s_aload (i := .aload_n 0) (len := 1) hq_158 (by decide +kernel) rfl (.inr ⟨0, rfl, rfl, rfl⟩) : e_Sn 158 0 (o_load e_okR 0 1)) t_158_1
noncomputable def e_tb_158 : e_X := (e_lf 0 (e_un n_158_0))
theorem e_tk_158 : e_Tb 158 e_tb_158 := (e_lfT t_158_0)
theorem hq_160 : (e_ml[160]?).map (·.2.1) = some prog_14_method_61_code := rfl
theorem ho_160 : (e_ml[160]?).map (·.1.cls) = some "PlateroomprinterModel" := rfl
theorem hr_160 : (e_ml[160]?).map (·.2.2.2) = some (some .int) := rfl
noncomputable def n_160_9 : e_Y := u_retI
theorem t_160_9 : e_Sn 160 9 (e_un n_160_9) := u_retIT (s_iret hq_160 hr_160 (by decide +kernel) : e_Sn 160 9 (o_ret e_okI))
noncomputable def n_160_6 : e_Y := u_callV 12 161 8 27 1 n_161_0 n_160_9
theorem t_160_6 : e_Sn 160 6 (e_un n_160_6) := u_callVT rfl (s_callV (ci := 12) (C := er_12) (T := et_12) (N := 5) (index := 304) hq_160 ho_160 hy_161 hp_161 hc_161 hi_161 hd_161 (List.mem_of_getElem? (i := 3026) (by decide +kernel)) hs_161 (List.mem_of_getElem? (i := 131) (by decide +kernel)) rfl (by decide +kernel) rfl : e_Sn 160 6 (o_callV (e_s1 12 161 8) 1 9)) t_161_0 t_160_9
noncomputable def n_160_5 : e_Y := u_ld f_okA f_l0 n_160_6
theorem t_160_5 : e_Sn 160 5 (e_un n_160_5) := u_ldAT f_l0_eq (s_aload (i := .aload_n 0) (len := 1) hq_160 (by decide +kernel) rfl (.inr ⟨0, rfl, rfl, rfl⟩) : e_Sn 160 5 (o_load e_okR 0 6)) t_160_6
noncomputable def n_160_2 : e_Y := u_old (o_putf (e_f1 12 0) e_okI 5) n_160_5
theorem t_160_2 : e_Sn 160 2 (e_un n_160_2) := u_oldT (s_putf (ty0 := ey_12) (ok := e_okI) (C := er_12) (T := et_12) (N := 5) (ref := "PlateroomprinterModel") (index := 124) (ci := 12) (k := 0) hq_160 ho_160 ⟨rfl, by decide, ei_12, (List.mem_of_getElem? (i := 1958) (by decide +kernel)), .inl rfl⟩ eo_12 en_12 e_oksI (.inl rfl) (by decide +kernel) rfl : e_Sn 160 2 (o_putf (e_f1 12 0) e_okI 5)) t_160_5 (e_cg_putf (e_f1 12 0) e_okI)
noncomputable def n_160_1 : e_Y := u_push (.inl 2147483648) n_160_2
theorem t_160_1 : e_Sn 160 1 (e_un n_160_1) := u_pushT (s_iconst (n := (0)) hq_160 (by decide +kernel) rfl ⟨by decide +kernel, by decide +kernel⟩ : e_Sn 160 1 (o_push (.inl 2147483648) 2)) t_160_2
noncomputable def n_160_0 : e_Y := u_ld f_okA f_l0 n_160_1
theorem t_160_0 : e_Sn 160 0 (e_un n_160_0) := u_ldAT f_l0_eq (s_aload (i := .aload_n 0) (len := 1) hq_160 (by decide +kernel) rfl (.inr ⟨0, rfl, rfl, rfl⟩) : e_Sn 160 0 (o_load e_okR 0 1)) t_160_1
noncomputable def e_tb_160 : e_X := (e_lf 0 (e_un n_160_0))
theorem e_tk_160 : e_Tb 160 e_tb_160 := (e_lfT t_160_0)
theorem hq_167 : (e_ml[167]?).map (·.2.1) = some prog_14_method_25_code := rfl
theorem ho_167 : (e_ml[167]?).map (·.1.cls) = some "PlateroomprinterModel" := rfl
theorem hr_167 : (e_ml[167]?).map (·.2.2.2) = some (some .boolean) := rfl
noncomputable def n_167_107 : e_Y := u_tab (o_ret e_okZ)
theorem t_167_107 : e_Sn 167 107 (e_un n_167_107) := u_tabT (s_zret hq_167 hr_167 (by decide +kernel) : e_Sn 167 107 (o_ret e_okZ))
noncomputable def n_167_106 : e_Y := u_push (.inl 2147483649) n_167_107
theorem t_167_106 : e_Sn 167 106 (e_un n_167_106) := u_pushT (s_iconst (n := (1)) hq_167 (by decide +kernel) rfl ⟨by decide +kernel, by decide +kernel⟩ : e_Sn 167 106 (o_push (.inl 2147483649) 107)) t_167_107
noncomputable def n_167_105 : e_Y := u_tab (o_ret e_okZ)
theorem t_167_105 : e_Sn 167 105 (e_un n_167_105) := u_tabT (s_zret hq_167 hr_167 (by decide +kernel) : e_Sn 167 105 (o_ret e_okZ))
noncomputable def n_167_104 : e_Y := u_push (.inl 2147483648) n_167_105
theorem t_167_104 : e_Sn 167 104 (e_un n_167_104) := u_pushT (s_iconst (n := (0)) hq_167 (by decide +kernel) rfl ⟨by decide +kernel, by decide +kernel⟩ : e_Sn 167 104 (o_push (.inl 2147483648) 105)) t_167_105
noncomputable def n_167_101 : e_Y := n_167_105
theorem t_167_101 : e_Sn 167 101 (e_un n_167_101) := u_gotoT (s_goto (off := (4)) hq_167 (by decide +kernel) rfl : e_Sn 167 101 (o_goto 105)) t_167_105
noncomputable def n_167_100 : e_Y := u_push (.inl 2147483649) n_167_101
theorem t_167_100 : e_Sn 167 100 (e_un n_167_100) := u_pushT (s_iconst (n := (1)) hq_167 (by decide +kernel) rfl ⟨by decide +kernel, by decide +kernel⟩ : e_Sn 167 100 (o_push (.inl 2147483649) 101)) t_167_101
noncomputable def n_167_97 : e_Y := u_if y_ne0 (u_old2 (o_ifeq 104 100) 104 n_167_104 n_167_100) n_167_104 n_167_100
theorem t_167_97 : e_Sn 167 97 (e_un n_167_97) := u_ifeqT rfl (s_ifeq (off := (7)) hq_167 (by decide +kernel) rfl rfl : e_Sn 167 97 (o_ifeq 104 100)) t_167_104 t_167_100
noncomputable def n_167_96 : e_Y := u_ld f_okI f_l1 n_167_97
theorem t_167_96 : e_Sn 167 96 (e_un n_167_96) := u_ldIT f_l1_eq (s_iload (i := .iload_n 1) (len := 1) hq_167 (by decide +kernel) rfl (.inr ⟨1, rfl, rfl, rfl⟩) : e_Sn 167 96 (o_load e_okI 1 97)) t_167_97
noncomputable def n_167_95 : e_Y := u_tab (o_ret e_okZ)
theorem t_167_95 : e_Sn 167 95 (e_un n_167_95) := u_tabT (s_zret hq_167 hr_167 (by decide +kernel) : e_Sn 167 95 (o_ret e_okZ))
noncomputable def n_167_94 : e_Y := u_push (.inl 2147483648) n_167_95
theorem t_167_94 : e_Sn 167 94 (e_un n_167_94) := u_pushT (s_iconst (n := (0)) hq_167 (by decide +kernel) rfl ⟨by decide +kernel, by decide +kernel⟩ : e_Sn 167 94 (o_push (.inl 2147483648) 95)) t_167_95
noncomputable def n_167_91 : e_Y := n_167_95
theorem t_167_91 : e_Sn 167 91 (e_un n_167_91) := u_gotoT (s_goto (off := (4)) hq_167 (by decide +kernel) rfl : e_Sn 167 91 (o_goto 95)) t_167_95
noncomputable def n_167_90 : e_Y := u_push (.inl 2147483649) n_167_91
theorem t_167_90 : e_Sn 167 90 (e_un n_167_90) := u_pushT (s_iconst (n := (1)) hq_167 (by decide +kernel) rfl ⟨by decide +kernel, by decide +kernel⟩ : e_Sn 167 90 (o_push (.inl 2147483649) 91)) t_167_91
noncomputable def n_167_87 : e_Y := u_if y_ne0 (u_old2 (o_ifeq 90 94) 90 n_167_90 n_167_94) n_167_90 n_167_94
theorem t_167_87 : e_Sn 167 87 (e_un n_167_87) := u_ifeqT rfl (s_ifne (off := (7)) hq_167 (by decide +kernel) rfl rfl : e_Sn 167 87 (o_ifeq 90 94)) t_167_90 t_167_94
noncomputable def n_167_84 : e_Y := u_callS 162 6 25 3 n_162_0 n_167_87
theorem t_167_84 : e_Sn 167 84 (e_un n_167_84) := u_callST rfl (s_callS (index := 136) hq_167 ho_167 hy_162 hp_162 hc_162 hi_162 hd_162 (List.mem_of_getElem? (i := 1987) (by decide +kernel)) hs_162 (by decide +kernel) rfl : e_Sn 167 84 (o_callS 162 6 3 87)) t_162_0 t_167_87
noncomputable def n_167_81 : e_Y := u_push (e_L 9223372036854775817) n_167_84
theorem t_167_81 : e_Sn 167 81 (e_un n_167_81) := u_pushT (s_ldc2 (index := 142) (v := (9)) hq_167 ho_167 (List.mem_of_getElem? (i := 1991) (by decide +kernel)) (by decide +kernel) rfl ⟨by decide +kernel, by decide +kernel⟩ : e_Sn 167 81 (o_push (e_L 9223372036854775817) 84)) t_167_84
noncomputable def n_167_80 : e_Y := u_push (e_L 9223372036854775808) n_167_81
theorem t_167_80 : e_Sn 167 80 (e_un n_167_80) := u_pushT (s_lconst (n := 0) hq_167 (by decide +kernel) rfl ⟨by decide +kernel, by decide +kernel⟩ : e_Sn 167 80 (o_push (e_L 9223372036854775808) 81)) t_167_81
noncomputable def n_167_79 : e_Y := u_old (o_i2l 80) n_167_80
theorem t_167_79 : e_Sn 167 79 (e_un n_167_79) := u_oldT (s_i2l hq_167 (by decide +kernel) rfl : e_Sn 167 79 (o_i2l 80)) t_167_80 e_congr_i2l
noncomputable def n_167_78 : e_Y := u_ld f_okI f_l1 n_167_79
theorem t_167_78 : e_Sn 167 78 (e_un n_167_78) := u_ldIT f_l1_eq (s_iload (i := .iload_n 1) (len := 1) hq_167 (by decide +kernel) rfl (.inr ⟨1, rfl, rfl, rfl⟩) : e_Sn 167 78 (o_load e_okI 1 79)) t_167_79
noncomputable def n_167_77 : e_Y := u_tab (o_ret e_okZ)
theorem t_167_77 : e_Sn 167 77 (e_un n_167_77) := u_tabT (s_zret hq_167 hr_167 (by decide +kernel) : e_Sn 167 77 (o_ret e_okZ))
noncomputable def n_167_76 : e_Y := u_push (.inl 2147483648) n_167_77
theorem t_167_76 : e_Sn 167 76 (e_un n_167_76) := u_pushT (s_iconst (n := (0)) hq_167 (by decide +kernel) rfl ⟨by decide +kernel, by decide +kernel⟩ : e_Sn 167 76 (o_push (.inl 2147483648) 77)) t_167_77
noncomputable def n_167_73 : e_Y := n_167_77
theorem t_167_73 : e_Sn 167 73 (e_un n_167_73) := u_gotoT (s_goto (off := (4)) hq_167 (by decide +kernel) rfl : e_Sn 167 73 (o_goto 77)) t_167_77
noncomputable def n_167_72 : e_Y := u_push (.inl 2147483649) n_167_73
theorem t_167_72 : e_Sn 167 72 (e_un n_167_72) := u_pushT (s_iconst (n := (1)) hq_167 (by decide +kernel) rfl ⟨by decide +kernel, by decide +kernel⟩ : e_Sn 167 72 (o_push (.inl 2147483649) 73)) t_167_73
noncomputable def n_167_69 : e_Y := u_if y_ne0 (u_old2 (o_ifeq 72 76) 72 n_167_72 n_167_76) n_167_72 n_167_76
theorem t_167_69 : e_Sn 167 69 (e_un n_167_69) := u_ifeqT rfl (s_ifne (off := (7)) hq_167 (by decide +kernel) rfl rfl : e_Sn 167 69 (o_ifeq 72 76)) t_167_72 t_167_76
noncomputable def n_167_66 : e_Y := u_callS 162 6 25 3 n_162_0 n_167_69
theorem t_167_66 : e_Sn 167 66 (e_un n_167_66) := u_callST rfl (s_callS (index := 136) hq_167 ho_167 hy_162 hp_162 hc_162 hi_162 hd_162 (List.mem_of_getElem? (i := 1987) (by decide +kernel)) hs_162 (by decide +kernel) rfl : e_Sn 167 66 (o_callS 162 6 3 69)) t_162_0 t_167_69
noncomputable def n_167_63 : e_Y := u_push (e_L 9223372036854775860) n_167_66
theorem t_167_63 : e_Sn 167 63 (e_un n_167_63) := u_pushT (s_ldc2 (index := 140) (v := (52)) hq_167 ho_167 (List.mem_of_getElem? (i := 1990) (by decide +kernel)) (by decide +kernel) rfl ⟨by decide +kernel, by decide +kernel⟩ : e_Sn 167 63 (o_push (e_L 9223372036854775860) 66)) t_167_66
noncomputable def n_167_62 : e_Y := u_push (e_L 9223372036854775808) n_167_63
theorem t_167_62 : e_Sn 167 62 (e_un n_167_62) := u_pushT (s_lconst (n := 0) hq_167 (by decide +kernel) rfl ⟨by decide +kernel, by decide +kernel⟩ : e_Sn 167 62 (o_push (e_L 9223372036854775808) 63)) t_167_63
noncomputable def n_167_61 : e_Y := u_old (o_i2l 62) n_167_62
theorem t_167_61 : e_Sn 167 61 (e_un n_167_61) := u_oldT (s_i2l hq_167 (by decide +kernel) rfl : e_Sn 167 61 (o_i2l 62)) t_167_62 e_congr_i2l
noncomputable def n_167_60 : e_Y := u_ld f_okI f_l1 n_167_61
theorem t_167_60 : e_Sn 167 60 (e_un n_167_60) := u_ldIT f_l1_eq (s_iload (i := .iload_n 1) (len := 1) hq_167 (by decide +kernel) rfl (.inr ⟨1, rfl, rfl, rfl⟩) : e_Sn 167 60 (o_load e_okI 1 61)) t_167_61
noncomputable def n_167_59 : e_Y := u_tab (o_ret e_okZ)
theorem t_167_59 : e_Sn 167 59 (e_un n_167_59) := u_tabT (s_zret hq_167 hr_167 (by decide +kernel) : e_Sn 167 59 (o_ret e_okZ))
noncomputable def n_167_58 : e_Y := u_push (.inl 2147483648) n_167_59
theorem t_167_58 : e_Sn 167 58 (e_un n_167_58) := u_pushT (s_iconst (n := (0)) hq_167 (by decide +kernel) rfl ⟨by decide +kernel, by decide +kernel⟩ : e_Sn 167 58 (o_push (.inl 2147483648) 59)) t_167_59
noncomputable def n_167_55 : e_Y := n_167_59
theorem t_167_55 : e_Sn 167 55 (e_un n_167_55) := u_gotoT (s_goto (off := (4)) hq_167 (by decide +kernel) rfl : e_Sn 167 55 (o_goto 59)) t_167_59
noncomputable def n_167_54 : e_Y := u_push (.inl 2147483649) n_167_55
theorem t_167_54 : e_Sn 167 54 (e_un n_167_54) := u_pushT (s_iconst (n := (1)) hq_167 (by decide +kernel) rfl ⟨by decide +kernel, by decide +kernel⟩ : e_Sn 167 54 (o_push (.inl 2147483649) 55)) t_167_55
noncomputable def n_167_51 : e_Y := u_if y_ne0 (u_old2 (o_ifeq 54 58) 54 n_167_54 n_167_58) n_167_54 n_167_58
theorem t_167_51 : e_Sn 167 51 (e_un n_167_51) := u_ifeqT rfl (s_ifne (off := (7)) hq_167 (by decide +kernel) rfl rfl : e_Sn 167 51 (o_ifeq 54 58)) t_167_54 t_167_58
noncomputable def n_167_48 : e_Y := u_callS 162 6 25 3 n_162_0 n_167_51
theorem t_167_48 : e_Sn 167 48 (e_un n_167_48) := u_callST rfl (s_callS (index := 136) hq_167 ho_167 hy_162 hp_162 hc_162 hi_162 hd_162 (List.mem_of_getElem? (i := 1987) (by decide +kernel)) hs_162 (by decide +kernel) rfl : e_Sn 167 48 (o_callS 162 6 3 51)) t_162_0 t_167_51
noncomputable def n_167_45 : e_Y := u_push (e_L 9223372036854785807) n_167_48
theorem t_167_45 : e_Sn 167 45 (e_un n_167_45) := u_pushT (s_ldc2 (index := 134) (v := (9999)) hq_167 ho_167 (List.mem_of_getElem? (i := 1986) (by decide +kernel)) (by decide +kernel) rfl ⟨by decide +kernel, by decide +kernel⟩ : e_Sn 167 45 (o_push (e_L 9223372036854785807) 48)) t_167_48
noncomputable def n_167_42 : e_Y := u_push (e_L 9223372036854765809) n_167_45
theorem t_167_42 : e_Sn 167 42 (e_un n_167_42) := u_pushT (s_ldc2 (index := 132) (v := (-9999)) hq_167 ho_167 (List.mem_of_getElem? (i := 1985) (by decide +kernel)) (by decide +kernel) rfl ⟨by decide +kernel, by decide +kernel⟩ : e_Sn 167 42 (o_push (e_L 9223372036854765809) 45)) t_167_45
noncomputable def n_167_41 : e_Y := u_old (o_i2l 42) n_167_42
theorem t_167_41 : e_Sn 167 41 (e_un n_167_41) := u_oldT (s_i2l hq_167 (by decide +kernel) rfl : e_Sn 167 41 (o_i2l 42)) t_167_42 e_congr_i2l
noncomputable def n_167_40 : e_Y := u_ld f_okI f_l1 n_167_41
theorem t_167_40 : e_Sn 167 40 (e_un n_167_40) := u_ldIT f_l1_eq (s_iload (i := .iload_n 1) (len := 1) hq_167 (by decide +kernel) rfl (.inr ⟨1, rfl, rfl, rfl⟩) : e_Sn 167 40 (o_load e_okI 1 41)) t_167_41
noncomputable def n_167_1 : e_Y := u_tab (o_switch 2147483648 [40, 60, 78, 78, 96, 96] 106)
theorem t_167_1 : e_Sn 167 1 (e_un n_167_1) := u_tabT (s_switch (dflt := (105)) (low := (0)) (hi := (5)) (offs := #[(39), (59), (77), (77), (95), (95)]) (len := 39) hq_167 (by decide +kernel) rfl rfl rfl rfl : e_Sn 167 1 (o_switch 2147483648 [40, 60, 78, 78, 96, 96] 106))
noncomputable def n_167_0 : e_Y := u_ld f_okI f_l0 n_167_1
theorem t_167_0 : e_Sn 167 0 (e_un n_167_0) := u_ldIT f_l0_eq (s_iload (i := .iload_n 0) (len := 1) hq_167 (by decide +kernel) rfl (.inr ⟨0, rfl, rfl, rfl⟩) : e_Sn 167 0 (o_load e_okI 0 1)) t_167_1
noncomputable def e_tb_167 : e_X := (e_br 78 (e_br 40 (e_lf 0 (e_un n_167_0)) (e_br 60 (e_lf 40 (e_un n_167_40)) (e_lf 60 (e_un n_167_60)))) (e_br 96 (e_lf 78 (e_un n_167_78)) (e_br 106 (e_lf 96 (e_un n_167_96)) (e_lf 106 (e_un n_167_106)))))
theorem e_tk_167 : e_Tb 167 e_tb_167 := (e_brT (e_brT (e_lfT t_167_0) (e_brT (e_lfT t_167_40) (e_lfT t_167_60))) (e_brT (e_lfT t_167_78) (e_brT (e_lfT t_167_96) (e_lfT t_167_106))))
theorem hq_168 : (e_ml[168]?).map (·.2.1) = some prog_14_method_82_code := rfl
theorem ho_168 : (e_ml[168]?).map (·.1.cls) = some "PlateroomprinterModel" := rfl
theorem hr_168 : (e_ml[168]?).map (·.2.2.2) = some (some .boolean) := rfl
noncomputable def n_168_6 : e_Y := u_tab (o_ret e_okZ)
theorem t_168_6 : e_Sn 168 6 (e_un n_168_6) := u_tabT (s_zret hq_168 hr_168 (by decide +kernel) : e_Sn 168 6 (o_ret e_okZ))
noncomputable def n_168_5 : e_Y := u_push (.inl 2147483649) n_168_6
theorem t_168_5 : e_Sn 168 5 (e_un n_168_5) := u_pushT (s_iconst (n := (1)) hq_168 (by decide +kernel) rfl ⟨by decide +kernel, by decide +kernel⟩ : e_Sn 168 5 (o_push (.inl 2147483649) 6)) t_168_6
noncomputable def n_168_2 : e_Y := u_old (o_putf (e_f1 12 0) e_okI 5) n_168_5
theorem t_168_2 : e_Sn 168 2 (e_un n_168_2) := u_oldT (s_putf (ty0 := ey_12) (ok := e_okI) (C := er_12) (T := et_12) (N := 5) (ref := "PlateroomprinterModel") (index := 124) (ci := 12) (k := 0) hq_168 ho_168 ⟨rfl, by decide, ei_12, (List.mem_of_getElem? (i := 1958) (by decide +kernel)), .inl rfl⟩ eo_12 en_12 e_oksI (.inl rfl) (by decide +kernel) rfl : e_Sn 168 2 (o_putf (e_f1 12 0) e_okI 5)) t_168_5 (e_cg_putf (e_f1 12 0) e_okI)
noncomputable def n_168_1 : e_Y := u_push (.inl 2147483648) n_168_2
theorem t_168_1 : e_Sn 168 1 (e_un n_168_1) := u_pushT (s_iconst (n := (0)) hq_168 (by decide +kernel) rfl ⟨by decide +kernel, by decide +kernel⟩ : e_Sn 168 1 (o_push (.inl 2147483648) 2)) t_168_2
noncomputable def n_168_0 : e_Y := u_ld f_okA f_l0 n_168_1
theorem t_168_0 : e_Sn 168 0 (e_un n_168_0) := u_ldAT f_l0_eq (s_aload (i := .aload_n 0) (len := 1) hq_168 (by decide +kernel) rfl (.inr ⟨0, rfl, rfl, rfl⟩) : e_Sn 168 0 (o_load e_okR 0 1)) t_168_1
noncomputable def e_tb_168 : e_X := (e_lf 0 (e_un n_168_0))
theorem e_tk_168 : e_Tb 168 e_tb_168 := (e_lfT t_168_0)
theorem hq_169 : (e_ml[169]?).map (·.2.1) = some prog_14_method_38_code := rfl
theorem ho_169 : (e_ml[169]?).map (·.1.cls) = some "PlateroomprinterModel" := rfl
theorem hr_169 : (e_ml[169]?).map (·.2.2.2) = some (some .int) := rfl
noncomputable def n_169_93 : e_Y := u_retI
theorem t_169_93 : e_Sn 169 93 (e_un n_169_93) := u_retIT (s_iret hq_169 hr_169 (by decide +kernel) : e_Sn 169 93 (o_ret e_okI))
noncomputable def n_169_59 : e_Y := n_169_93
theorem t_169_59 : e_Sn 169 59 (e_un n_169_59) := u_gotoT (s_goto (off := (34)) hq_169 (by decide +kernel) rfl : e_Sn 169 59 (o_goto 93)) t_169_93
noncomputable def n_169_58 : e_Y := u_push (.inl 2147483648) n_169_59
theorem t_169_58 : e_Sn 169 58 (e_un n_169_58) := u_pushT (s_iconst (n := (0)) hq_169 (by decide +kernel) rfl ⟨by decide +kernel, by decide +kernel⟩ : e_Sn 169 58 (o_push (.inl 2147483648) 59)) t_169_59
noncomputable def n_169_32 : e_Y := u_if y_ne0 (u_old2 (o_ifeq 35 58) 35 (u_at 35) n_169_58) (u_at 35) n_169_58
theorem t_169_32 : e_Sn 169 32 (e_un n_169_32) := u_ifeqT rfl (s_ifne (off := (26)) hq_169 (by decide +kernel) rfl rfl : e_Sn 169 32 (o_ifeq 35 58)) u_atT t_169_58
noncomputable def n_169_29 : e_Y := u_callV 12 195 3 22 3 n_195_0 n_169_32
theorem t_169_29 : e_Sn 169 29 (e_un n_169_29) := u_callVT rfl (s_callV (ci := 12) (C := er_12) (T := et_12) (N := 5) (index := 148) hq_169 ho_169 hy_195 hp_195 hc_195 hi_195 hd_195 (List.mem_of_getElem? (i := 1992) (by decide +kernel)) hs_195 (List.mem_of_getElem? (i := 73) (by decide +kernel)) rfl (by decide +kernel) rfl : e_Sn 169 29 (o_callV (e_s1 12 195 3) 3 32)) t_195_0 t_169_32
noncomputable def n_169_28 : e_Y := u_push (.inl 2147483649) n_169_29
theorem t_169_28 : e_Sn 169 28 (e_un n_169_28) := u_pushT (s_iconst (n := (1)) hq_169 (by decide +kernel) rfl ⟨by decide +kernel, by decide +kernel⟩ : e_Sn 169 28 (o_push (.inl 2147483649) 29)) t_169_29
noncomputable def n_169_24 : e_Y := n_169_28
theorem t_169_24 : e_Sn 169 24 (e_un n_169_24) := u_gotoT (s_goto (off := (4)) hq_169 (by decide +kernel) rfl : e_Sn 169 24 (o_goto 28)) t_169_28
noncomputable def n_169_23 : e_Y := u_push (.inl 2147483649) n_169_24
theorem t_169_23 : e_Sn 169 23 (e_un n_169_23) := u_pushT (s_iconst (n := (1)) hq_169 (by decide +kernel) rfl ⟨by decide +kernel, by decide +kernel⟩ : e_Sn 169 23 (o_push (.inl 2147483649) 24)) t_169_24
noncomputable def n_169_20 : e_Y := u_if y_ne0 (u_old2 (o_ifeq 23 27) 23 n_169_23 (u_at 27)) n_169_23 (u_at 27)
theorem t_169_20 : e_Sn 169 20 (e_un n_169_20) := u_ifeqT rfl (s_ifne (off := (7)) hq_169 (by decide +kernel) rfl rfl : e_Sn 169 20 (o_ifeq 23 27)) t_169_23 u_atT
noncomputable def n_169_17 : e_Y := u_callS 162 6 25 3 n_162_0 n_169_20
theorem t_169_17 : e_Sn 169 17 (e_un n_169_17) := u_callST rfl (s_callS (index := 136) hq_169 ho_169 hy_162 hp_162 hc_162 hi_162 hd_162 (List.mem_of_getElem? (i := 1987) (by decide +kernel)) hs_162 (by decide +kernel) rfl : e_Sn 169 17 (o_callS 162 6 3 20)) t_162_0 t_169_20
noncomputable def n_169_16 : e_Y := u_old (o_i2l 17) n_169_17
theorem t_169_16 : e_Sn 169 16 (e_un n_169_16) := u_oldT (s_i2l hq_169 (by decide +kernel) rfl : e_Sn 169 16 (o_i2l 17)) t_169_17 e_congr_i2l
noncomputable def n_169_15 : e_Y := u_bin a_isub (u_old (o_isub 16) n_169_16) n_169_16
theorem t_169_15 : e_Sn 169 15 (e_un n_169_15) := u_isubT (s_isub hq_169 (by decide +kernel) rfl : e_Sn 169 15 (o_isub 16)) t_169_16
noncomputable def n_169_14 : e_Y := u_push (.inl 2147483649) n_169_15
theorem t_169_14 : e_Sn 169 14 (e_un n_169_14) := u_pushT (s_iconst (n := (1)) hq_169 (by decide +kernel) rfl ⟨by decide +kernel, by decide +kernel⟩ : e_Sn 169 14 (o_push (.inl 2147483649) 15)) t_169_15
noncomputable def n_169_11 : e_Y := u_callV 19 236 1 20 1 n_236_0 n_169_14
theorem t_169_11 : e_Sn 169 11 (e_un n_169_11) := u_callVT rfl (s_callV (ci := 19) (C := er_19) (T := et_19) (N := 3) (index := 74) hq_169 ho_169 hy_236 hp_236 hc_236 hi_236 hd_236 (List.mem_of_getElem? (i := 2000) (by decide +kernel)) hs_236 (List.mem_of_getElem? (i := 2002) (by decide +kernel)) rfl (by decide +kernel) rfl : e_Sn 169 11 (o_callV (e_s1 19 236 1) 1 14)) t_236_0 t_169_14
noncomputable def n_169_8 : e_Y := u_getf 13 0 (u_old (o_getf (e_f1 13 0) 11) n_169_11) n_169_11
theorem t_169_8 : e_Sn 169 8 (e_un n_169_8) := u_getfT (s_getf (C := er_13) (T := et_13) (N := 13) (ref := "PlateroomprinterModel$Machine") (index := 187) (ci := 13) (k := 0) hq_169 ho_169 ⟨rfl, by decide, ei_13, (List.mem_of_getElem? (i := 1892) (by decide +kernel)), .inl rfl⟩ (by decide +kernel) rfl : e_Sn 169 8 (o_getf (e_f1 13 0) 11)) t_169_11
noncomputable def n_169_5 : e_Y := u_getf 12 1 (u_old (o_getf (e_f1 12 1) 8) n_169_8) n_169_8
theorem t_169_5 : e_Sn 169 5 (e_un n_169_5) := u_getfT (s_getf (C := er_12) (T := et_12) (N := 5) (ref := "PlateroomprinterModel") (index := 10) (ci := 12) (k := 1) hq_169 ho_169 ⟨rfl, by decide, ei_12, (List.mem_of_getElem? (i := 1959) (by decide +kernel)), .inl rfl⟩ (by decide +kernel) rfl : e_Sn 169 5 (o_getf (e_f1 12 1) 8)) t_169_8
noncomputable def n_169_4 : e_Y := u_ld f_okA f_l0 n_169_5
theorem t_169_4 : e_Sn 169 4 (e_un n_169_4) := u_ldAT f_l0_eq (s_aload (i := .aload_n 0) (len := 1) hq_169 (by decide +kernel) rfl (.inr ⟨0, rfl, rfl, rfl⟩) : e_Sn 169 4 (o_load e_okR 0 5)) t_169_5
noncomputable def n_169_3 : e_Y := u_push (e_L 9223372036854775808) n_169_4
theorem t_169_3 : e_Sn 169 3 (e_un n_169_3) := u_pushT (s_lconst (n := 0) hq_169 (by decide +kernel) rfl ⟨by decide +kernel, by decide +kernel⟩ : e_Sn 169 3 (o_push (e_L 9223372036854775808) 4)) t_169_4
noncomputable def n_169_2 : e_Y := u_old (o_i2l 3) n_169_3
theorem t_169_2 : e_Sn 169 2 (e_un n_169_2) := u_oldT (s_i2l hq_169 (by decide +kernel) rfl : e_Sn 169 2 (o_i2l 3)) t_169_3 e_congr_i2l
noncomputable def n_169_1 : e_Y := u_ld f_okI f_l1 n_169_2
theorem t_169_1 : e_Sn 169 1 (e_un n_169_1) := u_ldIT f_l1_eq (s_iload (i := .iload_n 1) (len := 1) hq_169 (by decide +kernel) rfl (.inr ⟨1, rfl, rfl, rfl⟩) : e_Sn 169 1 (o_load e_okI 1 2)) t_169_2
noncomputable def n_169_0 : e_Y := u_ld f_okA f_l0 n_169_1
theorem t_169_0 : e_Sn 169 0 (e_un n_169_0) := u_ldAT f_l0_eq (s_aload (i := .aload_n 0) (len := 1) hq_169 (by decide +kernel) rfl (.inr ⟨0, rfl, rfl, rfl⟩) : e_Sn 169 0 (o_load e_okR 0 1)) t_169_1
noncomputable def e_tb_169 : e_X := (e_lf 0 (e_un n_169_0))
theorem e_tk_169 : e_Tb 169 e_tb_169 := (e_lfT t_169_0)
theorem hq_170 : (e_ml[170]?).map (·.2.1) = some prog_14_method_37_code := rfl
theorem ho_170 : (e_ml[170]?).map (·.1.cls) = some "PlateroomprinterModel" := rfl
theorem hr_170 : (e_ml[170]?).map (·.2.2.2) = some (some .int) := rfl
noncomputable def n_170_15 : e_Y := u_retI
theorem t_170_15 : e_Sn 170 15 (e_un n_170_15) := u_retIT (s_iret hq_170 hr_170 (by decide +kernel) : e_Sn 170 15 (o_ret e_okI))
noncomputable def n_170_12 : e_Y := u_callV 19 236 1 20 1 n_236_0 n_170_15
theorem t_170_12 : e_Sn 170 12 (e_un n_170_12) := u_callVT rfl (s_callV (ci := 19) (C := er_19) (T := et_19) (N := 3) (index := 74) hq_170 ho_170 hy_236 hp_236 hc_236 hi_236 hd_236 (List.mem_of_getElem? (i := 2000) (by decide +kernel)) hs_236 (List.mem_of_getElem? (i := 2002) (by decide +kernel)) rfl (by decide +kernel) rfl : e_Sn 170 12 (o_callV (e_s1 19 236 1) 1 15)) t_236_0 t_170_15
noncomputable def n_170_9 : e_Y := u_getf 13 0 (u_old (o_getf (e_f1 13 0) 12) n_170_12) n_170_12
theorem t_170_9 : e_Sn 170 9 (e_un n_170_9) := u_getfT (s_getf (C := er_13) (T := et_13) (N := 13) (ref := "PlateroomprinterModel$Machine") (index := 187) (ci := 13) (k := 0) hq_170 ho_170 ⟨rfl, by decide, ei_13, (List.mem_of_getElem? (i := 1892) (by decide +kernel)), .inl rfl⟩ (by decide +kernel) rfl : e_Sn 170 9 (o_getf (e_f1 13 0) 12)) t_170_12
noncomputable def n_170_6 : e_Y := u_getf 12 1 (u_old (o_getf (e_f1 12 1) 9) n_170_9) n_170_9
theorem t_170_6 : e_Sn 170 6 (e_un n_170_6) := u_getfT (s_getf (C := er_12) (T := et_12) (N := 5) (ref := "PlateroomprinterModel") (index := 10) (ci := 12) (k := 1) hq_170 ho_170 ⟨rfl, by decide, ei_12, (List.mem_of_getElem? (i := 1959) (by decide +kernel)), .inl rfl⟩ (by decide +kernel) rfl : e_Sn 170 6 (o_getf (e_f1 12 1) 9)) t_170_9
noncomputable def n_170_5 : e_Y := u_ld f_okA f_l0 n_170_6
theorem t_170_5 : e_Sn 170 5 (e_un n_170_5) := u_ldAT f_l0_eq (s_aload (i := .aload_n 0) (len := 1) hq_170 (by decide +kernel) rfl (.inr ⟨0, rfl, rfl, rfl⟩) : e_Sn 170 5 (o_load e_okR 0 6)) t_170_6
noncomputable def n_170_2 : e_Y := u_old (o_putf (e_f1 12 0) e_okI 5) n_170_5
theorem t_170_2 : e_Sn 170 2 (e_un n_170_2) := u_oldT (s_putf (ty0 := ey_12) (ok := e_okI) (C := er_12) (T := et_12) (N := 5) (ref := "PlateroomprinterModel") (index := 124) (ci := 12) (k := 0) hq_170 ho_170 ⟨rfl, by decide, ei_12, (List.mem_of_getElem? (i := 1958) (by decide +kernel)), .inl rfl⟩ eo_12 en_12 e_oksI (.inl rfl) (by decide +kernel) rfl : e_Sn 170 2 (o_putf (e_f1 12 0) e_okI 5)) t_170_5 (e_cg_putf (e_f1 12 0) e_okI)
noncomputable def n_170_1 : e_Y := u_push (.inl 2147483648) n_170_2
theorem t_170_1 : e_Sn 170 1 (e_un n_170_1) := u_pushT (s_iconst (n := (0)) hq_170 (by decide +kernel) rfl ⟨by decide +kernel, by decide +kernel⟩ : e_Sn 170 1 (o_push (.inl 2147483648) 2)) t_170_2
noncomputable def n_170_0 : e_Y := u_ld f_okA f_l0 n_170_1
theorem t_170_0 : e_Sn 170 0 (e_un n_170_0) := u_ldAT f_l0_eq (s_aload (i := .aload_n 0) (len := 1) hq_170 (by decide +kernel) rfl (.inr ⟨0, rfl, rfl, rfl⟩) : e_Sn 170 0 (o_load e_okR 0 1)) t_170_1
noncomputable def e_tb_170 : e_X := (e_lf 0 (e_un n_170_0))
theorem e_tk_170 : e_Tb 170 e_tb_170 := (e_lfT t_170_0)
theorem hq_171 : (e_ml[171]?).map (·.2.1) = some prog_14_method_33_code := rfl
theorem ho_171 : (e_ml[171]?).map (·.1.cls) = some "PlateroomprinterModel" := rfl
theorem hr_171 : (e_ml[171]?).map (·.2.2.2) = some (some .int) := rfl
noncomputable def n_171_19 : e_Y := u_retI
theorem t_171_19 : e_Sn 171 19 (e_un n_171_19) := u_retIT (s_iret hq_171 hr_171 (by decide +kernel) : e_Sn 171 19 (o_ret e_okI))
noncomputable def n_171_16 : e_Y := u_getf 12 4 (u_old (o_getf (e_f1 12 4) 19) n_171_19) n_171_19
theorem t_171_16 : e_Sn 171 16 (e_un n_171_16) := u_getfT (s_getf (C := er_12) (T := et_12) (N := 5) (ref := "PlateroomprinterModel") (index := 184) (ci := 12) (k := 4) hq_171 ho_171 ⟨rfl, by decide, ei_12, (List.mem_of_getElem? (i := 1962) (by decide +kernel)), .inl rfl⟩ (by decide +kernel) rfl : e_Sn 171 16 (o_getf (e_f1 12 4) 19)) t_171_19
noncomputable def n_171_15 : e_Y := u_ld f_okA f_l0 n_171_16
theorem t_171_15 : e_Sn 171 15 (e_un n_171_15) := u_ldAT f_l0_eq (s_aload (i := .aload_n 0) (len := 1) hq_171 (by decide +kernel) rfl (.inr ⟨0, rfl, rfl, rfl⟩) : e_Sn 171 15 (o_load e_okR 0 16)) t_171_16
noncomputable def n_171_12 : e_Y := u_old (o_putf (e_f1 12 4) e_okI 15) n_171_15
theorem t_171_12 : e_Sn 171 12 (e_un n_171_12) := u_oldT (s_putf (ty0 := ey_12) (ok := e_okI) (C := er_12) (T := et_12) (N := 5) (ref := "PlateroomprinterModel") (index := 184) (ci := 12) (k := 4) hq_171 ho_171 ⟨rfl, by decide, ei_12, (List.mem_of_getElem? (i := 1962) (by decide +kernel)), .inl rfl⟩ eo_12 en_12 e_oksI (.inl rfl) (by decide +kernel) rfl : e_Sn 171 12 (o_putf (e_f1 12 4) e_okI 15)) t_171_15 (e_cg_putf (e_f1 12 4) e_okI)
noncomputable def n_171_11 : e_Y := u_bin a_iadd (u_old (o_iadd 12) n_171_12) n_171_12
theorem t_171_11 : e_Sn 171 11 (e_un n_171_11) := u_iaddT (s_iadd hq_171 (by decide +kernel) rfl : e_Sn 171 11 (o_iadd 12)) t_171_12
noncomputable def n_171_10 : e_Y := u_push (.inl 2147483649) n_171_11
theorem t_171_10 : e_Sn 171 10 (e_un n_171_10) := u_pushT (s_iconst (n := (1)) hq_171 (by decide +kernel) rfl ⟨by decide +kernel, by decide +kernel⟩ : e_Sn 171 10 (o_push (.inl 2147483649) 11)) t_171_11
noncomputable def n_171_7 : e_Y := u_getf 12 4 (u_old (o_getf (e_f1 12 4) 10) n_171_10) n_171_10
theorem t_171_7 : e_Sn 171 7 (e_un n_171_7) := u_getfT (s_getf (C := er_12) (T := et_12) (N := 5) (ref := "PlateroomprinterModel") (index := 184) (ci := 12) (k := 4) hq_171 ho_171 ⟨rfl, by decide, ei_12, (List.mem_of_getElem? (i := 1962) (by decide +kernel)), .inl rfl⟩ (by decide +kernel) rfl : e_Sn 171 7 (o_getf (e_f1 12 4) 10)) t_171_10
noncomputable def n_171_6 : e_Y := u_old (o_dup 7) n_171_7
theorem t_171_6 : e_Sn 171 6 (e_un n_171_6) := u_oldT (s_dup hq_171 (by decide +kernel) rfl : e_Sn 171 6 (o_dup 7)) t_171_7 e_cg_dup
noncomputable def n_171_5 : e_Y := u_ld f_okA f_l0 n_171_6
theorem t_171_5 : e_Sn 171 5 (e_un n_171_5) := u_ldAT f_l0_eq (s_aload (i := .aload_n 0) (len := 1) hq_171 (by decide +kernel) rfl (.inr ⟨0, rfl, rfl, rfl⟩) : e_Sn 171 5 (o_load e_okR 0 6)) t_171_6
noncomputable def n_171_2 : e_Y := u_old (o_putf (e_f1 12 0) e_okI 5) n_171_5
theorem t_171_2 : e_Sn 171 2 (e_un n_171_2) := u_oldT (s_putf (ty0 := ey_12) (ok := e_okI) (C := er_12) (T := et_12) (N := 5) (ref := "PlateroomprinterModel") (index := 124) (ci := 12) (k := 0) hq_171 ho_171 ⟨rfl, by decide, ei_12, (List.mem_of_getElem? (i := 1958) (by decide +kernel)), .inl rfl⟩ eo_12 en_12 e_oksI (.inl rfl) (by decide +kernel) rfl : e_Sn 171 2 (o_putf (e_f1 12 0) e_okI 5)) t_171_5 (e_cg_putf (e_f1 12 0) e_okI)
noncomputable def n_171_1 : e_Y := u_push (.inl 2147483648) n_171_2
theorem t_171_1 : e_Sn 171 1 (e_un n_171_1) := u_pushT (s_iconst (n := (0)) hq_171 (by decide +kernel) rfl ⟨by decide +kernel, by decide +kernel⟩ : e_Sn 171 1 (o_push (.inl 2147483648) 2)) t_171_2
noncomputable def n_171_0 : e_Y := u_ld f_okA f_l0 n_171_1
theorem t_171_0 : e_Sn 171 0 (e_un n_171_0) := u_ldAT f_l0_eq (s_aload (i := .aload_n 0) (len := 1) hq_171 (by decide +kernel) rfl (.inr ⟨0, rfl, rfl, rfl⟩) : e_Sn 171 0 (o_load e_okR 0 1)) t_171_1
noncomputable def e_tb_171 : e_X := (e_lf 0 (e_un n_171_0))
theorem e_tk_171 : e_Tb 171 e_tb_171 := (e_lfT t_171_0)
theorem hq_172 : (e_ml[172]?).map (·.2.1) = some prog_14_method_67_code := rfl
theorem ho_172 : (e_ml[172]?).map (·.1.cls) = some "PlateroomprinterModel" := rfl
theorem hr_172 : (e_ml[172]?).map (·.2.2.2) = some (some .int) := rfl
noncomputable def n_172_73 : e_Y := u_retI
theorem t_172_73 : e_Sn 172 73 (e_un n_172_73) := u_retIT (s_iret hq_172 hr_172 (by decide +kernel) : e_Sn 172 73 (o_ret e_okI))
noncomputable def n_172_72 : e_Y := u_ld f_okI f_l3 n_172_73
theorem t_172_72 : e_Sn 172 72 (e_un n_172_72) := u_ldIT f_l3_eq (s_iload (i := .iload_n 3) (len := 1) hq_172 (by decide +kernel) rfl (.inr ⟨3, rfl, rfl, rfl⟩) : e_Sn 172 72 (o_load e_okI 3 73)) t_172_73
noncomputable def n_172_32 : e_Y := u_jmp y_ge (u_old2 (o_clt 35 72) 35 (u_at 35) n_172_72) (u_at 35) n_172_72
theorem t_172_32 : e_Sn 172 32 (e_un n_172_32) := u_cltT rfl (s_cge (off := (40)) hq_172 (by decide +kernel) rfl rfl : e_Sn 172 32 (o_clt 35 72)) u_atT t_172_72
noncomputable def n_172_29 : e_Y := u_callV 19 236 1 20 1 n_236_0 n_172_32
theorem t_172_29 : e_Sn 172 29 (e_un n_172_29) := u_callVT rfl (s_callV (ci := 19) (C := er_19) (T := et_19) (N := 3) (index := 74) hq_172 ho_172 hy_236 hp_236 hc_236 hi_236 hd_236 (List.mem_of_getElem? (i := 2000) (by decide +kernel)) hs_236 (List.mem_of_getElem? (i := 2002) (by decide +kernel)) rfl (by decide +kernel) rfl : e_Sn 172 29 (o_callV (e_s1 19 236 1) 1 32)) t_236_0 t_172_32
noncomputable def n_172_26 : e_Y := u_getf 13 5 (u_old (o_getf (e_f1 13 5) 29) n_172_29) n_172_29
theorem t_172_26 : e_Sn 172 26 (e_un n_172_26) := u_getfT (s_getf (C := er_13) (T := et_13) (N := 13) (ref := "PlateroomprinterModel$Machine") (index := 311) (ci := 13) (k := 5) hq_172 ho_172 ⟨rfl, by decide, ei_13, (List.mem_of_getElem? (i := 1907) (by decide +kernel)), .inl rfl⟩ (by decide +kernel) rfl : e_Sn 172 26 (o_getf (e_f1 13 5) 29)) t_172_29
noncomputable def n_172_23 : e_Y := u_getf 12 1 (u_old (o_getf (e_f1 12 1) 26) n_172_26) n_172_26
theorem t_172_23 : e_Sn 172 23 (e_un n_172_23) := u_getfT (s_getf (C := er_12) (T := et_12) (N := 5) (ref := "PlateroomprinterModel") (index := 10) (ci := 12) (k := 1) hq_172 ho_172 ⟨rfl, by decide, ei_12, (List.mem_of_getElem? (i := 1959) (by decide +kernel)), .inl rfl⟩ (by decide +kernel) rfl : e_Sn 172 23 (o_getf (e_f1 12 1) 26)) t_172_26
noncomputable def n_172_22 : e_Y := u_ld f_okA f_l0 n_172_23
theorem t_172_22 : e_Sn 172 22 (e_un n_172_22) := u_ldAT f_l0_eq (s_aload (i := .aload_n 0) (len := 1) hq_172 (by decide +kernel) rfl (.inr ⟨0, rfl, rfl, rfl⟩) : e_Sn 172 22 (o_load e_okR 0 23)) t_172_23
noncomputable def n_172_20 : e_Y := u_ld f_okI f_l4 n_172_22
theorem t_172_20 : e_Sn 172 20 (e_un n_172_20) := u_ldIT f_l4_eq (s_iload (i := .iload 4) (len := 2) hq_172 (by decide +kernel) rfl (.inl ⟨rfl, rfl⟩) : e_Sn 172 20 (o_load e_okI 4 22)) t_172_22
noncomputable def n_172_18 : e_Y := u_st f_okI f_s4 n_172_20
theorem t_172_18 : e_Sn 172 18 (e_un n_172_18) := u_stIT (fun _ _ _ => f_s4_eq) (s_istore (i := .istore 4) (len := 2) hq_172 (by decide +kernel) rfl (.inl ⟨rfl, rfl⟩) : e_Sn 172 18 (o_store e_okI 4 20)) t_172_20
noncomputable def n_172_17 : e_Y := u_push (.inl 2147483648) n_172_18
theorem t_172_17 : e_Sn 172 17 (e_un n_172_17) := u_pushT (s_iconst (n := (0)) hq_172 (by decide +kernel) rfl ⟨by decide +kernel, by decide +kernel⟩ : e_Sn 172 17 (o_push (.inl 2147483648) 18)) t_172_18
noncomputable def n_172_16 : e_Y := u_st f_okI f_s3 n_172_17
theorem t_172_16 : e_Sn 172 16 (e_un n_172_16) := u_stIT (fun _ _ _ => f_s3_eq) (s_istore (i := .istore_n 3) (len := 1) hq_172 (by decide +kernel) rfl (.inr ⟨3, rfl, rfl, rfl⟩) : e_Sn 172 16 (o_store e_okI 3 17)) t_172_17
noncomputable def n_172_15 : e_Y := u_push (.inl 2147483647) n_172_16
theorem t_172_15 : e_Sn 172 15 (e_un n_172_15) := u_pushT (s_iconst (n := (-1)) hq_172 (by decide +kernel) rfl ⟨by decide +kernel, by decide +kernel⟩ : e_Sn 172 15 (o_push (.inl 2147483647) 16)) t_172_16
noncomputable def n_172_14 : e_Y := u_retI
theorem t_172_14 : e_Sn 172 14 (e_un n_172_14) := u_retIT (s_iret hq_172 hr_172 (by decide +kernel) : e_Sn 172 14 (o_ret e_okI))
noncomputable def n_172_13 : e_Y := u_push (.inl 2147483648) n_172_14
theorem t_172_13 : e_Sn 172 13 (e_un n_172_13) := u_pushT (s_iconst (n := (0)) hq_172 (by decide +kernel) rfl ⟨by decide +kernel, by decide +kernel⟩ : e_Sn 172 13 (o_push (.inl 2147483648) 14)) t_172_14
noncomputable def n_172_10 : e_Y := u_if y_ne0 (u_old2 (o_ifeq 15 13) 15 n_172_15 n_172_13) n_172_15 n_172_13
theorem t_172_10 : e_Sn 172 10 (e_un n_172_10) := u_ifeqT rfl (s_ifeq (off := (5)) hq_172 (by decide +kernel) rfl rfl : e_Sn 172 10 (o_ifeq 15 13)) t_172_15 t_172_13
noncomputable def n_172_7 : e_Y := u_callV 12 195 3 22 3 n_195_0 n_172_10
theorem t_172_7 : e_Sn 172 7 (e_un n_172_7) := u_callVT rfl (s_callV (ci := 12) (C := er_12) (T := et_12) (N := 5) (index := 148) hq_172 ho_172 hy_195 hp_195 hc_195 hi_195 hd_195 (List.mem_of_getElem? (i := 1992) (by decide +kernel)) hs_195 (List.mem_of_getElem? (i := 73) (by decide +kernel)) rfl (by decide +kernel) rfl : e_Sn 172 7 (o_callV (e_s1 12 195 3) 3 10)) t_195_0 t_172_10
noncomputable def n_172_6 : e_Y := u_push (.inl 2147483649) n_172_7
theorem t_172_6 : e_Sn 172 6 (e_un n_172_6) := u_pushT (s_iconst (n := (1)) hq_172 (by decide +kernel) rfl ⟨by decide +kernel, by decide +kernel⟩ : e_Sn 172 6 (o_push (.inl 2147483649) 7)) t_172_7
noncomputable def n_172_3 : e_Y := u_callS 163 2 21 2 n_163_0 n_172_6
theorem t_172_3 : e_Sn 172 3 (e_un n_172_3) := u_callST rfl (s_callS (index := 288) hq_172 ho_172 hy_163 hp_163 hc_163 hi_163 hd_163 (List.mem_of_getElem? (i := 3006) (by decide +kernel)) hs_163 (by decide +kernel) rfl : e_Sn 172 3 (o_callS 163 2 2 6)) t_163_0 t_172_6
noncomputable def n_172_2 : e_Y := u_ld f_okI f_l2 n_172_3
theorem t_172_2 : e_Sn 172 2 (e_un n_172_2) := u_ldIT f_l2_eq (s_iload (i := .iload_n 2) (len := 1) hq_172 (by decide +kernel) rfl (.inr ⟨2, rfl, rfl, rfl⟩) : e_Sn 172 2 (o_load e_okI 2 3)) t_172_3
noncomputable def n_172_1 : e_Y := u_ld f_okI f_l1 n_172_2
theorem t_172_1 : e_Sn 172 1 (e_un n_172_1) := u_ldIT f_l1_eq (s_iload (i := .iload_n 1) (len := 1) hq_172 (by decide +kernel) rfl (.inr ⟨1, rfl, rfl, rfl⟩) : e_Sn 172 1 (o_load e_okI 1 2)) t_172_2
noncomputable def n_172_0 : e_Y := u_ld f_okA f_l0 n_172_1
theorem t_172_0 : e_Sn 172 0 (e_un n_172_0) := u_ldAT f_l0_eq (s_aload (i := .aload_n 0) (len := 1) hq_172 (by decide +kernel) rfl (.inr ⟨0, rfl, rfl, rfl⟩) : e_Sn 172 0 (o_load e_okR 0 1)) t_172_1
noncomputable def e_tb_172 : e_X := (e_lf 0 (e_un n_172_0))
theorem e_tk_172 : e_Tb 172 e_tb_172 := (e_lfT t_172_0)
theorem hq_173 : (e_ml[173]?).map (·.2.1) = some prog_14_method_81_code := rfl
theorem ho_173 : (e_ml[173]?).map (·.1.cls) = some "PlateroomprinterModel" := rfl
theorem hr_173 : (e_ml[173]?).map (·.2.2.2) = some (some .int) := rfl
noncomputable def n_173_47 : e_Y := u_retI
theorem t_173_47 : e_Sn 173 47 (e_un n_173_47) := u_retIT (s_iret hq_173 hr_173 (by decide +kernel) : e_Sn 173 47 (o_ret e_okI))
noncomputable def n_173_28 : e_Y := n_173_47
theorem t_173_28 : e_Sn 173 28 (e_un n_173_28) := u_gotoT (s_goto (off := (19)) hq_173 (by decide +kernel) rfl : e_Sn 173 28 (o_goto 47)) t_173_47
noncomputable def n_173_27 : e_Y := u_push (.inl 2147483647) n_173_28
theorem t_173_27 : e_Sn 173 27 (e_un n_173_27) := u_pushT (s_iconst (n := (-1)) hq_173 (by decide +kernel) rfl ⟨by decide +kernel, by decide +kernel⟩ : e_Sn 173 27 (o_push (.inl 2147483647) 28)) t_173_28
noncomputable def n_173_24 : e_Y := u_tab (o_null 27 31)
theorem t_173_24 : e_Sn 173 24 (e_un n_173_24) := u_tabT (s_ifnonnull (off := (7)) hq_173 (by decide +kernel) rfl rfl : e_Sn 173 24 (o_null 27 31))
noncomputable def n_173_21 : e_Y := u_getf 13 7 (u_old (o_getf (e_f1 13 7) 24) n_173_24) n_173_24
theorem t_173_21 : e_Sn 173 21 (e_un n_173_21) := u_getfT (s_getf (C := er_13) (T := et_13) (N := 13) (ref := "PlateroomprinterModel$Machine") (index := 364) (ci := 13) (k := 7) hq_173 ho_173 ⟨rfl, by decide, ei_13, (List.mem_of_getElem? (i := 1913) (by decide +kernel)), .inl rfl⟩ (by decide +kernel) rfl : e_Sn 173 21 (o_getf (e_f1 13 7) 24)) t_173_24
noncomputable def n_173_18 : e_Y := u_getf 12 1 (u_old (o_getf (e_f1 12 1) 21) n_173_21) n_173_21
theorem t_173_18 : e_Sn 173 18 (e_un n_173_18) := u_getfT (s_getf (C := er_12) (T := et_12) (N := 5) (ref := "PlateroomprinterModel") (index := 10) (ci := 12) (k := 1) hq_173 ho_173 ⟨rfl, by decide, ei_12, (List.mem_of_getElem? (i := 1959) (by decide +kernel)), .inl rfl⟩ (by decide +kernel) rfl : e_Sn 173 18 (o_getf (e_f1 12 1) 21)) t_173_21
noncomputable def n_173_17 : e_Y := u_ld f_okA f_l0 n_173_18
theorem t_173_17 : e_Sn 173 17 (e_un n_173_17) := u_ldAT f_l0_eq (s_aload (i := .aload_n 0) (len := 1) hq_173 (by decide +kernel) rfl (.inr ⟨0, rfl, rfl, rfl⟩) : e_Sn 173 17 (o_load e_okR 0 18)) t_173_18
noncomputable def n_173_14 : e_Y := n_173_47
theorem t_173_14 : e_Sn 173 14 (e_un n_173_14) := u_gotoT (s_goto (off := (33)) hq_173 (by decide +kernel) rfl : e_Sn 173 14 (o_goto 47)) t_173_47
noncomputable def n_173_13 : e_Y := u_push (.inl 2147483648) n_173_14
theorem t_173_13 : e_Sn 173 13 (e_un n_173_13) := u_pushT (s_iconst (n := (0)) hq_173 (by decide +kernel) rfl ⟨by decide +kernel, by decide +kernel⟩ : e_Sn 173 13 (o_push (.inl 2147483648) 14)) t_173_14
noncomputable def n_173_10 : e_Y := u_if y_ne0 (u_old2 (o_ifeq 17 13) 17 n_173_17 n_173_13) n_173_17 n_173_13
theorem t_173_10 : e_Sn 173 10 (e_un n_173_10) := u_ifeqT rfl (s_ifeq (off := (7)) hq_173 (by decide +kernel) rfl rfl : e_Sn 173 10 (o_ifeq 17 13)) t_173_17 t_173_13
noncomputable def n_173_7 : e_Y := u_callV 12 195 3 22 3 n_195_0 n_173_10
theorem t_173_7 : e_Sn 173 7 (e_un n_173_7) := u_callVT rfl (s_callV (ci := 12) (C := er_12) (T := et_12) (N := 5) (index := 148) hq_173 ho_173 hy_195 hp_195 hc_195 hi_195 hd_195 (List.mem_of_getElem? (i := 1992) (by decide +kernel)) hs_195 (List.mem_of_getElem? (i := 73) (by decide +kernel)) rfl (by decide +kernel) rfl : e_Sn 173 7 (o_callV (e_s1 12 195 3) 3 10)) t_195_0 t_173_10
noncomputable def n_173_6 : e_Y := u_push (.inl 2147483649) n_173_7
theorem t_173_6 : e_Sn 173 6 (e_un n_173_6) := u_pushT (s_iconst (n := (1)) hq_173 (by decide +kernel) rfl ⟨by decide +kernel, by decide +kernel⟩ : e_Sn 173 6 (o_push (.inl 2147483649) 7)) t_173_7
noncomputable def n_173_3 : e_Y := u_callS 163 2 21 2 n_163_0 n_173_6
theorem t_173_3 : e_Sn 173 3 (e_un n_173_3) := u_callST rfl (s_callS (index := 288) hq_173 ho_173 hy_163 hp_163 hc_163 hi_163 hd_163 (List.mem_of_getElem? (i := 3006) (by decide +kernel)) hs_163 (by decide +kernel) rfl : e_Sn 173 3 (o_callS 163 2 2 6)) t_163_0 t_173_6
noncomputable def n_173_2 : e_Y := u_ld f_okI f_l2 n_173_3
theorem t_173_2 : e_Sn 173 2 (e_un n_173_2) := u_ldIT f_l2_eq (s_iload (i := .iload_n 2) (len := 1) hq_173 (by decide +kernel) rfl (.inr ⟨2, rfl, rfl, rfl⟩) : e_Sn 173 2 (o_load e_okI 2 3)) t_173_3
noncomputable def n_173_1 : e_Y := u_ld f_okI f_l1 n_173_2
theorem t_173_1 : e_Sn 173 1 (e_un n_173_1) := u_ldIT f_l1_eq (s_iload (i := .iload_n 1) (len := 1) hq_173 (by decide +kernel) rfl (.inr ⟨1, rfl, rfl, rfl⟩) : e_Sn 173 1 (o_load e_okI 1 2)) t_173_2
noncomputable def n_173_0 : e_Y := u_ld f_okA f_l0 n_173_1
theorem t_173_0 : e_Sn 173 0 (e_un n_173_0) := u_ldAT f_l0_eq (s_aload (i := .aload_n 0) (len := 1) hq_173 (by decide +kernel) rfl (.inr ⟨0, rfl, rfl, rfl⟩) : e_Sn 173 0 (o_load e_okR 0 1)) t_173_1
noncomputable def e_tb_173 : e_X := (e_br 27 (e_lf 0 (e_un n_173_0)) (e_lf 27 (e_un n_173_27)))
theorem e_tk_173 : e_Tb 173 e_tb_173 := (e_brT (e_lfT t_173_0) (e_lfT t_173_27))
theorem hq_175 : (e_ml[175]?).map (·.2.1) = some prog_14_method_47_code := rfl
theorem ho_175 : (e_ml[175]?).map (·.1.cls) = some "PlateroomprinterModel" := rfl
theorem hr_175 : (e_ml[175]?).map (·.2.2.2) = some (some .int) := rfl
noncomputable def n_175_58 : e_Y := u_retI
theorem t_175_58 : e_Sn 175 58 (e_un n_175_58) := u_retIT (s_iret hq_175 hr_175 (by decide +kernel) : e_Sn 175 58 (o_ret e_okI))
noncomputable def n_175_55 : e_Y := u_callV 12 176 3 22 3 n_176_0 n_175_58
theorem t_175_55 : e_Sn 175 55 (e_un n_175_55) := u_callVT rfl (s_callV (ci := 12) (C := er_12) (T := et_12) (N := 5) (index := 258) hq_175 ho_175 hy_176 hp_176 hc_176 hi_176 hd_176 (List.mem_of_getElem? (i := 2965) (by decide +kernel)) hs_176 (List.mem_of_getElem? (i := 125) (by decide +kernel)) rfl (by decide +kernel) rfl : e_Sn 175 55 (o_callV (e_s1 12 176 3) 3 58)) t_176_0 t_175_58
noncomputable def n_175_54 : e_Y := u_ld f_okI f_l2 n_175_55
theorem t_175_54 : e_Sn 175 54 (e_un n_175_54) := u_ldIT f_l2_eq (s_iload (i := .iload_n 2) (len := 1) hq_175 (by decide +kernel) rfl (.inr ⟨2, rfl, rfl, rfl⟩) : e_Sn 175 54 (o_load e_okI 2 55)) t_175_55
noncomputable def n_175_53 : e_Y := u_ld f_okI f_l1 n_175_54
theorem t_175_53 : e_Sn 175 53 (e_un n_175_53) := u_ldIT f_l1_eq (s_iload (i := .iload_n 1) (len := 1) hq_175 (by decide +kernel) rfl (.inr ⟨1, rfl, rfl, rfl⟩) : e_Sn 175 53 (o_load e_okI 1 54)) t_175_54
noncomputable def n_175_52 : e_Y := u_ld f_okA f_l0 n_175_53
theorem t_175_52 : e_Sn 175 52 (e_un n_175_52) := u_ldAT f_l0_eq (s_aload (i := .aload_n 0) (len := 1) hq_175 (by decide +kernel) rfl (.inr ⟨0, rfl, rfl, rfl⟩) : e_Sn 175 52 (o_load e_okR 0 53)) t_175_53
noncomputable def n_175_49 : e_Y := n_175_58
theorem t_175_49 : e_Sn 175 49 (e_un n_175_49) := u_gotoT (s_goto (off := (9)) hq_175 (by decide +kernel) rfl : e_Sn 175 49 (o_goto 58)) t_175_58
noncomputable def n_175_48 : e_Y := u_push (.inl 2147483648) n_175_49
theorem t_175_48 : e_Sn 175 48 (e_un n_175_48) := u_pushT (s_iconst (n := (0)) hq_175 (by decide +kernel) rfl ⟨by decide +kernel, by decide +kernel⟩ : e_Sn 175 48 (o_push (.inl 2147483648) 49)) t_175_49
noncomputable def n_175_45 : e_Y := u_if y_ne0 (u_old2 (o_ifeq 52 48) 52 n_175_52 n_175_48) n_175_52 n_175_48
theorem t_175_45 : e_Sn 175 45 (e_un n_175_45) := u_ifeqT rfl (s_ifeq (off := (7)) hq_175 (by decide +kernel) rfl rfl : e_Sn 175 45 (o_ifeq 52 48)) t_175_52 t_175_48
noncomputable def n_175_42 : e_Y := u_callV 12 187 3 22 3 n_187_0 n_175_45
theorem t_175_42 : e_Sn 175 42 (e_un n_175_42) := u_callVT rfl (s_callV (ci := 12) (C := er_12) (T := et_12) (N := 5) (index := 128) hq_175 ho_175 hy_187 hp_187 hc_187 hi_187 hd_187 (List.mem_of_getElem? (i := 1996) (by decide +kernel)) hs_187 (List.mem_of_getElem? (i := 74) (by decide +kernel)) rfl (by decide +kernel) rfl : e_Sn 175 42 (o_callV (e_s1 12 187 3) 3 45)) t_187_0 t_175_45
noncomputable def n_175_41 : e_Y := u_push (.inl 2147483650) n_175_42
theorem t_175_41 : e_Sn 175 41 (e_un n_175_41) := u_pushT (s_iconst (n := (2)) hq_175 (by decide +kernel) rfl ⟨by decide +kernel, by decide +kernel⟩ : e_Sn 175 41 (o_push (.inl 2147483650) 42)) t_175_42
noncomputable def n_175_40 : e_Y := u_push (.inl 2147483648) n_175_41
theorem t_175_40 : e_Sn 175 40 (e_un n_175_40) := u_pushT (s_iconst (n := (0)) hq_175 (by decide +kernel) rfl ⟨by decide +kernel, by decide +kernel⟩ : e_Sn 175 40 (o_push (.inl 2147483648) 41)) t_175_41
noncomputable def n_175_37 : e_Y := n_175_41
theorem t_175_37 : e_Sn 175 37 (e_un n_175_37) := u_gotoT (s_goto (off := (4)) hq_175 (by decide +kernel) rfl : e_Sn 175 37 (o_goto 41)) t_175_41
noncomputable def n_175_36 : e_Y := u_push (.inl 2147483649) n_175_37
theorem t_175_36 : e_Sn 175 36 (e_un n_175_36) := u_pushT (s_iconst (n := (1)) hq_175 (by decide +kernel) rfl ⟨by decide +kernel, by decide +kernel⟩ : e_Sn 175 36 (o_push (.inl 2147483649) 37)) t_175_37
noncomputable def n_175_33 : e_Y := u_if y_ne0 (u_old2 (o_ifeq 36 40) 36 n_175_36 n_175_40) n_175_36 n_175_40
theorem t_175_33 : e_Sn 175 33 (e_un n_175_33) := u_ifeqT rfl (s_ifne (off := (7)) hq_175 (by decide +kernel) rfl rfl : e_Sn 175 33 (o_ifeq 36 40)) t_175_36 t_175_40
noncomputable def n_175_30 : e_Y := u_callS 162 6 25 3 n_162_0 n_175_33
theorem t_175_30 : e_Sn 175 30 (e_un n_175_30) := u_callST rfl (s_callS (index := 136) hq_175 ho_175 hy_162 hp_162 hc_162 hi_162 hd_162 (List.mem_of_getElem? (i := 1987) (by decide +kernel)) hs_162 (by decide +kernel) rfl : e_Sn 175 30 (o_callS 162 6 3 33)) t_162_0 t_175_33
noncomputable def n_175_29 : e_Y := u_push (e_L 9223372036854775809) n_175_30
theorem t_175_29 : e_Sn 175 29 (e_un n_175_29) := u_pushT (s_lconst (n := 1) hq_175 (by decide +kernel) rfl ⟨by decide +kernel, by decide +kernel⟩ : e_Sn 175 29 (o_push (e_L 9223372036854775809) 30)) t_175_30
noncomputable def n_175_28 : e_Y := u_push (e_L 9223372036854775808) n_175_29
theorem t_175_28 : e_Sn 175 28 (e_un n_175_28) := u_pushT (s_lconst (n := 0) hq_175 (by decide +kernel) rfl ⟨by decide +kernel, by decide +kernel⟩ : e_Sn 175 28 (o_push (e_L 9223372036854775808) 29)) t_175_29
noncomputable def n_175_27 : e_Y := u_old (o_i2l 28) n_175_28
theorem t_175_27 : e_Sn 175 27 (e_un n_175_27) := u_oldT (s_i2l hq_175 (by decide +kernel) rfl : e_Sn 175 27 (o_i2l 28)) t_175_28 e_congr_i2l
noncomputable def n_175_26 : e_Y := u_ld f_okI f_l2 n_175_27
theorem t_175_26 : e_Sn 175 26 (e_un n_175_26) := u_ldIT f_l2_eq (s_iload (i := .iload_n 2) (len := 1) hq_175 (by decide +kernel) rfl (.inr ⟨2, rfl, rfl, rfl⟩) : e_Sn 175 26 (o_load e_okI 2 27)) t_175_27
noncomputable def n_175_25 : e_Y := u_ld f_okA f_l0 n_175_26
theorem t_175_25 : e_Sn 175 25 (e_un n_175_25) := u_ldAT f_l0_eq (s_aload (i := .aload_n 0) (len := 1) hq_175 (by decide +kernel) rfl (.inr ⟨0, rfl, rfl, rfl⟩) : e_Sn 175 25 (o_load e_okR 0 26)) t_175_26
noncomputable def n_175_22 : e_Y := u_if y_ne0 (u_old2 (o_ifeq 25 48) 25 n_175_25 n_175_48) n_175_25 n_175_48
theorem t_175_22 : e_Sn 175 22 (e_un n_175_22) := u_ifeqT rfl (s_ifne (off := (26)) hq_175 (by decide +kernel) rfl rfl : e_Sn 175 22 (o_ifeq 25 48)) t_175_25 t_175_48
noncomputable def n_175_19 : e_Y := u_callV 12 195 3 22 3 n_195_0 n_175_22
theorem t_175_19 : e_Sn 175 19 (e_un n_175_19) := u_callVT rfl (s_callV (ci := 12) (C := er_12) (T := et_12) (N := 5) (index := 148) hq_175 ho_175 hy_195 hp_195 hc_195 hi_195 hd_195 (List.mem_of_getElem? (i := 1992) (by decide +kernel)) hs_195 (List.mem_of_getElem? (i := 73) (by decide +kernel)) rfl (by decide +kernel) rfl : e_Sn 175 19 (o_callV (e_s1 12 195 3) 3 22)) t_195_0 t_175_22
noncomputable def n_175_18 : e_Y := u_push (.inl 2147483649) n_175_19
theorem t_175_18 : e_Sn 175 18 (e_un n_175_18) := u_pushT (s_iconst (n := (1)) hq_175 (by decide +kernel) rfl ⟨by decide +kernel, by decide +kernel⟩ : e_Sn 175 18 (o_push (.inl 2147483649) 19)) t_175_19
noncomputable def n_175_17 : e_Y := u_push (.inl 2147483648) n_175_18
theorem t_175_17 : e_Sn 175 17 (e_un n_175_17) := u_pushT (s_iconst (n := (0)) hq_175 (by decide +kernel) rfl ⟨by decide +kernel, by decide +kernel⟩ : e_Sn 175 17 (o_push (.inl 2147483648) 18)) t_175_18
noncomputable def n_175_14 : e_Y := n_175_18
theorem t_175_14 : e_Sn 175 14 (e_un n_175_14) := u_gotoT (s_goto (off := (4)) hq_175 (by decide +kernel) rfl : e_Sn 175 14 (o_goto 18)) t_175_18
noncomputable def n_175_13 : e_Y := u_push (.inl 2147483649) n_175_14
theorem t_175_13 : e_Sn 175 13 (e_un n_175_13) := u_pushT (s_iconst (n := (1)) hq_175 (by decide +kernel) rfl ⟨by decide +kernel, by decide +kernel⟩ : e_Sn 175 13 (o_push (.inl 2147483649) 14)) t_175_14
noncomputable def n_175_10 : e_Y := u_if y_ne0 (u_old2 (o_ifeq 13 17) 13 n_175_13 n_175_17) n_175_13 n_175_17
theorem t_175_10 : e_Sn 175 10 (e_un n_175_10) := u_ifeqT rfl (s_ifne (off := (7)) hq_175 (by decide +kernel) rfl rfl : e_Sn 175 10 (o_ifeq 13 17)) t_175_13 t_175_17
noncomputable def n_175_7 : e_Y := u_callS 162 6 25 3 n_162_0 n_175_10
theorem t_175_7 : e_Sn 175 7 (e_un n_175_7) := u_callST rfl (s_callS (index := 136) hq_175 ho_175 hy_162 hp_162 hc_162 hi_162 hd_162 (List.mem_of_getElem? (i := 1987) (by decide +kernel)) hs_162 (by decide +kernel) rfl : e_Sn 175 7 (o_callS 162 6 3 10)) t_162_0 t_175_10
noncomputable def n_175_4 : e_Y := u_push (e_L 9223372036854775813) n_175_7
theorem t_175_4 : e_Sn 175 4 (e_un n_175_4) := u_pushT (s_ldc2 (index := 256) (v := (5)) hq_175 ho_175 (List.mem_of_getElem? (i := 2964) (by decide +kernel)) (by decide +kernel) rfl ⟨by decide +kernel, by decide +kernel⟩ : e_Sn 175 4 (o_push (e_L 9223372036854775813) 7)) t_175_7
noncomputable def n_175_3 : e_Y := u_push (e_L 9223372036854775808) n_175_4
theorem t_175_3 : e_Sn 175 3 (e_un n_175_3) := u_pushT (s_lconst (n := 0) hq_175 (by decide +kernel) rfl ⟨by decide +kernel, by decide +kernel⟩ : e_Sn 175 3 (o_push (e_L 9223372036854775808) 4)) t_175_4
noncomputable def n_175_2 : e_Y := u_old (o_i2l 3) n_175_3
theorem t_175_2 : e_Sn 175 2 (e_un n_175_2) := u_oldT (s_i2l hq_175 (by decide +kernel) rfl : e_Sn 175 2 (o_i2l 3)) t_175_3 e_congr_i2l
noncomputable def n_175_1 : e_Y := u_ld f_okI f_l1 n_175_2
theorem t_175_1 : e_Sn 175 1 (e_un n_175_1) := u_ldIT f_l1_eq (s_iload (i := .iload_n 1) (len := 1) hq_175 (by decide +kernel) rfl (.inr ⟨1, rfl, rfl, rfl⟩) : e_Sn 175 1 (o_load e_okI 1 2)) t_175_2
noncomputable def n_175_0 : e_Y := u_ld f_okA f_l0 n_175_1
theorem t_175_0 : e_Sn 175 0 (e_un n_175_0) := u_ldAT f_l0_eq (s_aload (i := .aload_n 0) (len := 1) hq_175 (by decide +kernel) rfl (.inr ⟨0, rfl, rfl, rfl⟩) : e_Sn 175 0 (o_load e_okR 0 1)) t_175_1
noncomputable def e_tb_175 : e_X := (e_lf 0 (e_un n_175_0))
theorem e_tk_175 : e_Tb 175 e_tb_175 := (e_lfT t_175_0)
theorem hq_177 : (e_ml[177]?).map (·.2.1) = some prog_14_method_59_code := rfl
theorem ho_177 : (e_ml[177]?).map (·.1.cls) = some "PlateroomprinterModel" := rfl
theorem hr_177 : (e_ml[177]?).map (·.2.2.2) = some (some .int) := rfl
noncomputable def n_177_77 : e_Y := u_retI
theorem t_177_77 : e_Sn 177 77 (e_un n_177_77) := u_retIT (s_iret hq_177 hr_177 (by decide +kernel) : e_Sn 177 77 (o_ret e_okI))
noncomputable def n_177_74 : e_Y := u_callS 174 6 25 1 n_174_0 n_177_77
theorem t_177_74 : e_Sn 177 74 (e_un n_177_74) := u_callST rfl (s_callS (index := 240) hq_177 ho_177 hy_174 hp_174 hc_174 hi_174 hd_174 (List.mem_of_getElem? (i := 2959) (by decide +kernel)) hs_174 (by decide +kernel) rfl : e_Sn 177 74 (o_callS 174 6 1 77)) t_174_0 t_177_77
noncomputable def n_177_71 : e_Y := u_callS 148 4 23 2 n_148_0 n_177_74
theorem t_177_71 : e_Sn 177 71 (e_un n_177_71) := u_callST rfl (s_callS (index := 291) hq_177 ho_177 hy_148 hp_148 hc_148 hi_148 hd_148 (List.mem_of_getElem? (i := 3014) (by decide +kernel)) hs_148 (by decide +kernel) rfl : e_Sn 177 71 (o_callS 148 4 2 74)) t_148_0 t_177_74
noncomputable def n_177_70 : e_Y := u_ld f_okI f_l3 n_177_71
theorem t_177_70 : e_Sn 177 70 (e_un n_177_70) := u_ldIT f_l3_eq (s_iload (i := .iload_n 3) (len := 1) hq_177 (by decide +kernel) rfl (.inr ⟨3, rfl, rfl, rfl⟩) : e_Sn 177 70 (o_load e_okI 3 71)) t_177_71
noncomputable def n_177_67 : e_Y := u_callS 137 5 24 3 n_137_0 n_177_70
theorem t_177_67 : e_Sn 177 67 (e_un n_177_67) := u_callST rfl (s_callS (index := 299) hq_177 ho_177 hy_137 hp_137 hc_137 hi_137 hd_137 (List.mem_of_getElem? (i := 3021) (by decide +kernel)) hs_137 (by decide +kernel) rfl : e_Sn 177 67 (o_callS 137 5 3 70)) t_137_0 t_177_70
noncomputable def n_177_66 : e_Y := u_bin a_imul (u_old (o_imul 67) n_177_67) n_177_67
theorem t_177_66 : e_Sn 177 66 (e_un n_177_66) := u_imulT (s_imul hq_177 (by decide +kernel) rfl : e_Sn 177 66 (o_imul 67)) t_177_67
noncomputable def n_177_65 : e_Y := u_ld f_okI f_l2 n_177_66
theorem t_177_65 : e_Sn 177 65 (e_un n_177_65) := u_ldIT f_l2_eq (s_iload (i := .iload_n 2) (len := 1) hq_177 (by decide +kernel) rfl (.inr ⟨2, rfl, rfl, rfl⟩) : e_Sn 177 65 (o_load e_okI 2 66)) t_177_66
noncomputable def n_177_63 : e_Y := u_push (.inl 2147483664) n_177_65
theorem t_177_63 : e_Sn 177 63 (e_un n_177_63) := u_pushT (s_bipush (n := (16)) hq_177 (by decide +kernel) rfl ⟨by decide +kernel, by decide +kernel⟩ : e_Sn 177 63 (o_push (.inl 2147483664) 65)) t_177_65
noncomputable def n_177_62 : e_Y := u_bin a_imul (u_old (o_imul 63) n_177_63) n_177_63
theorem t_177_62 : e_Sn 177 62 (e_un n_177_62) := u_imulT (s_imul hq_177 (by decide +kernel) rfl : e_Sn 177 62 (o_imul 63)) t_177_63
noncomputable def n_177_61 : e_Y := u_ld f_okI f_l1 n_177_62
theorem t_177_61 : e_Sn 177 61 (e_un n_177_61) := u_ldIT f_l1_eq (s_iload (i := .iload_n 1) (len := 1) hq_177 (by decide +kernel) rfl (.inr ⟨1, rfl, rfl, rfl⟩) : e_Sn 177 61 (o_load e_okI 1 62)) t_177_62
noncomputable def n_177_59 : e_Y := u_push (.inl 2147483664) n_177_61
theorem t_177_59 : e_Sn 177 59 (e_un n_177_59) := u_pushT (s_bipush (n := (16)) hq_177 (by decide +kernel) rfl ⟨by decide +kernel, by decide +kernel⟩ : e_Sn 177 59 (o_push (.inl 2147483664) 61)) t_177_61
noncomputable def n_177_56 : e_Y := u_callV 12 184 1 20 1 n_184_0 n_177_59
theorem t_177_56 : e_Sn 177 56 (e_un n_177_56) := u_callVT rfl (s_callV (ci := 12) (C := er_12) (T := et_12) (N := 5) (index := 261) hq_177 ho_177 hy_184 hp_184 hc_184 hi_184 hd_184 (List.mem_of_getElem? (i := 2977) (by decide +kernel)) hs_184 (List.mem_of_getElem? (i := 127) (by decide +kernel)) rfl (by decide +kernel) rfl : e_Sn 177 56 (o_callV (e_s1 12 184 1) 1 59)) t_184_0 t_177_59
noncomputable def n_177_55 : e_Y := u_ld f_okA f_l0 n_177_56
theorem t_177_55 : e_Sn 177 55 (e_un n_177_55) := u_ldAT f_l0_eq (s_aload (i := .aload_n 0) (len := 1) hq_177 (by decide +kernel) rfl (.inr ⟨0, rfl, rfl, rfl⟩) : e_Sn 177 55 (o_load e_okR 0 56)) t_177_56
noncomputable def n_177_52 : e_Y := n_177_77
theorem t_177_52 : e_Sn 177 52 (e_un n_177_52) := u_gotoT (s_goto (off := (25)) hq_177 (by decide +kernel) rfl : e_Sn 177 52 (o_goto 77)) t_177_77
noncomputable def n_177_51 : e_Y := u_push (.inl 2147483648) n_177_52
theorem t_177_51 : e_Sn 177 51 (e_un n_177_51) := u_pushT (s_iconst (n := (0)) hq_177 (by decide +kernel) rfl ⟨by decide +kernel, by decide +kernel⟩ : e_Sn 177 51 (o_push (.inl 2147483648) 52)) t_177_52
noncomputable def n_177_48 : e_Y := u_if y_ne0 (u_old2 (o_ifeq 55 51) 55 n_177_55 n_177_51) n_177_55 n_177_51
theorem t_177_48 : e_Sn 177 48 (e_un n_177_48) := u_ifeqT rfl (s_ifeq (off := (7)) hq_177 (by decide +kernel) rfl rfl : e_Sn 177 48 (o_ifeq 55 51)) t_177_55 t_177_51
noncomputable def n_177_45 : e_Y := u_callV 12 195 3 22 3 n_195_0 n_177_48
theorem t_177_45 : e_Sn 177 45 (e_un n_177_45) := u_callVT rfl (s_callV (ci := 12) (C := er_12) (T := et_12) (N := 5) (index := 148) hq_177 ho_177 hy_195 hp_195 hc_195 hi_195 hd_195 (List.mem_of_getElem? (i := 1992) (by decide +kernel)) hs_195 (List.mem_of_getElem? (i := 73) (by decide +kernel)) rfl (by decide +kernel) rfl : e_Sn 177 45 (o_callV (e_s1 12 195 3) 3 48)) t_195_0 t_177_48
noncomputable def n_177_44 : e_Y := u_push (.inl 2147483649) n_177_45
theorem t_177_44 : e_Sn 177 44 (e_un n_177_44) := u_pushT (s_iconst (n := (1)) hq_177 (by decide +kernel) rfl ⟨by decide +kernel, by decide +kernel⟩ : e_Sn 177 44 (o_push (.inl 2147483649) 45)) t_177_45
noncomputable def n_177_43 : e_Y := u_push (.inl 2147483648) n_177_44
theorem t_177_43 : e_Sn 177 43 (e_un n_177_43) := u_pushT (s_iconst (n := (0)) hq_177 (by decide +kernel) rfl ⟨by decide +kernel, by decide +kernel⟩ : e_Sn 177 43 (o_push (.inl 2147483648) 44)) t_177_44
noncomputable def n_177_40 : e_Y := n_177_44
theorem t_177_40 : e_Sn 177 40 (e_un n_177_40) := u_gotoT (s_goto (off := (4)) hq_177 (by decide +kernel) rfl : e_Sn 177 40 (o_goto 44)) t_177_44
noncomputable def n_177_39 : e_Y := u_push (.inl 2147483649) n_177_40
theorem t_177_39 : e_Sn 177 39 (e_un n_177_39) := u_pushT (s_iconst (n := (1)) hq_177 (by decide +kernel) rfl ⟨by decide +kernel, by decide +kernel⟩ : e_Sn 177 39 (o_push (.inl 2147483649) 40)) t_177_40
noncomputable def n_177_36 : e_Y := u_if y_ne0 (u_old2 (o_ifeq 39 43) 39 n_177_39 n_177_43) n_177_39 n_177_43
theorem t_177_36 : e_Sn 177 36 (e_un n_177_36) := u_ifeqT rfl (s_ifne (off := (7)) hq_177 (by decide +kernel) rfl rfl : e_Sn 177 36 (o_ifeq 39 43)) t_177_39 t_177_43
noncomputable def n_177_33 : e_Y := u_callS 162 6 25 3 n_162_0 n_177_36
theorem t_177_33 : e_Sn 177 33 (e_un n_177_33) := u_callST rfl (s_callS (index := 136) hq_177 ho_177 hy_162 hp_162 hc_162 hi_162 hd_162 (List.mem_of_getElem? (i := 1987) (by decide +kernel)) hs_162 (by decide +kernel) rfl : e_Sn 177 33 (o_callS 162 6 3 36)) t_162_0 t_177_36
noncomputable def n_177_32 : e_Y := u_push (e_L 9223372036854775809) n_177_33
theorem t_177_32 : e_Sn 177 32 (e_un n_177_32) := u_pushT (s_lconst (n := 1) hq_177 (by decide +kernel) rfl ⟨by decide +kernel, by decide +kernel⟩ : e_Sn 177 32 (o_push (e_L 9223372036854775809) 33)) t_177_33
noncomputable def n_177_31 : e_Y := u_push (e_L 9223372036854775808) n_177_32
theorem t_177_31 : e_Sn 177 31 (e_un n_177_31) := u_pushT (s_lconst (n := 0) hq_177 (by decide +kernel) rfl ⟨by decide +kernel, by decide +kernel⟩ : e_Sn 177 31 (o_push (e_L 9223372036854775808) 32)) t_177_32
noncomputable def n_177_30 : e_Y := u_old (o_i2l 31) n_177_31
theorem t_177_30 : e_Sn 177 30 (e_un n_177_30) := u_oldT (s_i2l hq_177 (by decide +kernel) rfl : e_Sn 177 30 (o_i2l 31)) t_177_31 e_congr_i2l
noncomputable def n_177_29 : e_Y := u_ld f_okI f_l3 n_177_30
theorem t_177_29 : e_Sn 177 29 (e_un n_177_29) := u_ldIT f_l3_eq (s_iload (i := .iload_n 3) (len := 1) hq_177 (by decide +kernel) rfl (.inr ⟨3, rfl, rfl, rfl⟩) : e_Sn 177 29 (o_load e_okI 3 30)) t_177_30
noncomputable def n_177_26 : e_Y := u_if y_ne0 (u_old2 (o_ifeq 39 29) 39 n_177_39 n_177_29) n_177_39 n_177_29
theorem t_177_26 : e_Sn 177 26 (e_un n_177_26) := u_ifeqT rfl (s_ifeq (off := (13)) hq_177 (by decide +kernel) rfl rfl : e_Sn 177 26 (o_ifeq 39 29)) t_177_39 t_177_29
noncomputable def n_177_23 : e_Y := u_callS 162 6 25 3 n_162_0 n_177_26
theorem t_177_23 : e_Sn 177 23 (e_un n_177_23) := u_callST rfl (s_callS (index := 136) hq_177 ho_177 hy_162 hp_162 hc_162 hi_162 hd_162 (List.mem_of_getElem? (i := 1987) (by decide +kernel)) hs_162 (by decide +kernel) rfl : e_Sn 177 23 (o_callS 162 6 3 26)) t_162_0 t_177_26
noncomputable def n_177_20 : e_Y := u_push (e_L 9223372036854775848) n_177_23
theorem t_177_20 : e_Sn 177 20 (e_un n_177_20) := u_pushT (s_ldc2 (index := 297) (v := (40)) hq_177 ho_177 (List.mem_of_getElem? (i := 3020) (by decide +kernel)) (by decide +kernel) rfl ⟨by decide +kernel, by decide +kernel⟩ : e_Sn 177 20 (o_push (e_L 9223372036854775848) 23)) t_177_23
noncomputable def n_177_17 : e_Y := u_push (e_L 9223372036854775768) n_177_20
theorem t_177_17 : e_Sn 177 17 (e_un n_177_17) := u_pushT (s_ldc2 (index := 295) (v := (-40)) hq_177 ho_177 (List.mem_of_getElem? (i := 3019) (by decide +kernel)) (by decide +kernel) rfl ⟨by decide +kernel, by decide +kernel⟩ : e_Sn 177 17 (o_push (e_L 9223372036854775768) 20)) t_177_20
noncomputable def n_177_16 : e_Y := u_old (o_i2l 17) n_177_17
theorem t_177_16 : e_Sn 177 16 (e_un n_177_16) := u_oldT (s_i2l hq_177 (by decide +kernel) rfl : e_Sn 177 16 (o_i2l 17)) t_177_17 e_congr_i2l
noncomputable def n_177_15 : e_Y := u_ld f_okI f_l2 n_177_16
theorem t_177_15 : e_Sn 177 15 (e_un n_177_15) := u_ldIT f_l2_eq (s_iload (i := .iload_n 2) (len := 1) hq_177 (by decide +kernel) rfl (.inr ⟨2, rfl, rfl, rfl⟩) : e_Sn 177 15 (o_load e_okI 2 16)) t_177_16
noncomputable def n_177_12 : e_Y := u_if y_ne0 (u_old2 (o_ifeq 39 15) 39 n_177_39 n_177_15) n_177_39 n_177_15
theorem t_177_12 : e_Sn 177 12 (e_un n_177_12) := u_ifeqT rfl (s_ifeq (off := (27)) hq_177 (by decide +kernel) rfl rfl : e_Sn 177 12 (o_ifeq 39 15)) t_177_39 t_177_15
noncomputable def n_177_9 : e_Y := u_callS 162 6 25 3 n_162_0 n_177_12
theorem t_177_9 : e_Sn 177 9 (e_un n_177_9) := u_callST rfl (s_callS (index := 136) hq_177 ho_177 hy_162 hp_162 hc_162 hi_162 hd_162 (List.mem_of_getElem? (i := 1987) (by decide +kernel)) hs_162 (by decide +kernel) rfl : e_Sn 177 9 (o_callS 162 6 3 12)) t_162_0 t_177_12
noncomputable def n_177_6 : e_Y := u_push (e_L 9223372036854775848) n_177_9
theorem t_177_6 : e_Sn 177 6 (e_un n_177_6) := u_pushT (s_ldc2 (index := 297) (v := (40)) hq_177 ho_177 (List.mem_of_getElem? (i := 3020) (by decide +kernel)) (by decide +kernel) rfl ⟨by decide +kernel, by decide +kernel⟩ : e_Sn 177 6 (o_push (e_L 9223372036854775848) 9)) t_177_9
noncomputable def n_177_3 : e_Y := u_push (e_L 9223372036854775768) n_177_6
theorem t_177_3 : e_Sn 177 3 (e_un n_177_3) := u_pushT (s_ldc2 (index := 295) (v := (-40)) hq_177 ho_177 (List.mem_of_getElem? (i := 3019) (by decide +kernel)) (by decide +kernel) rfl ⟨by decide +kernel, by decide +kernel⟩ : e_Sn 177 3 (o_push (e_L 9223372036854775768) 6)) t_177_6
noncomputable def n_177_2 : e_Y := u_old (o_i2l 3) n_177_3
theorem t_177_2 : e_Sn 177 2 (e_un n_177_2) := u_oldT (s_i2l hq_177 (by decide +kernel) rfl : e_Sn 177 2 (o_i2l 3)) t_177_3 e_congr_i2l
noncomputable def n_177_1 : e_Y := u_ld f_okI f_l1 n_177_2
theorem t_177_1 : e_Sn 177 1 (e_un n_177_1) := u_ldIT f_l1_eq (s_iload (i := .iload_n 1) (len := 1) hq_177 (by decide +kernel) rfl (.inr ⟨1, rfl, rfl, rfl⟩) : e_Sn 177 1 (o_load e_okI 1 2)) t_177_2
noncomputable def n_177_0 : e_Y := u_ld f_okA f_l0 n_177_1
theorem t_177_0 : e_Sn 177 0 (e_un n_177_0) := u_ldAT f_l0_eq (s_aload (i := .aload_n 0) (len := 1) hq_177 (by decide +kernel) rfl (.inr ⟨0, rfl, rfl, rfl⟩) : e_Sn 177 0 (o_load e_okR 0 1)) t_177_1
noncomputable def e_tb_177 : e_X := (e_lf 0 (e_un n_177_0))
theorem e_tk_177 : e_Tb 177 e_tb_177 := (e_lfT t_177_0)
theorem hq_178 : (e_ml[178]?).map (·.2.1) = some prog_14_method_40_code := rfl
theorem ho_178 : (e_ml[178]?).map (·.1.cls) = some "PlateroomprinterModel" := rfl
theorem hr_178 : (e_ml[178]?).map (·.2.2.2) = some (some .int) := rfl
noncomputable def n_178_58 : e_Y := u_retI
theorem t_178_58 : e_Sn 178 58 (e_un n_178_58) := u_retIT (s_iret hq_178 hr_178 (by decide +kernel) : e_Sn 178 58 (o_ret e_okI))
noncomputable def n_178_55 : e_Y := u_callV 12 179 3 22 3 n_179_0 n_178_58
theorem t_178_55 : e_Sn 178 55 (e_un n_178_55) := u_callVT rfl (s_callV (ci := 12) (C := er_12) (T := et_12) (N := 5) (index := 199) hq_178 ho_178 hy_179 hp_179 hc_179 hi_179 hd_179 (List.mem_of_getElem? (i := 2933) (by decide +kernel)) hs_179 (List.mem_of_getElem? (i := 122) (by decide +kernel)) rfl (by decide +kernel) rfl : e_Sn 178 55 (o_callV (e_s1 12 179 3) 3 58)) t_179_0 t_178_58
noncomputable def n_178_54 : e_Y := u_ld f_okI f_l2 n_178_55
theorem t_178_54 : e_Sn 178 54 (e_un n_178_54) := u_ldIT f_l2_eq (s_iload (i := .iload_n 2) (len := 1) hq_178 (by decide +kernel) rfl (.inr ⟨2, rfl, rfl, rfl⟩) : e_Sn 178 54 (o_load e_okI 2 55)) t_178_55
noncomputable def n_178_53 : e_Y := u_ld f_okI f_l1 n_178_54
theorem t_178_53 : e_Sn 178 53 (e_un n_178_53) := u_ldIT f_l1_eq (s_iload (i := .iload_n 1) (len := 1) hq_178 (by decide +kernel) rfl (.inr ⟨1, rfl, rfl, rfl⟩) : e_Sn 178 53 (o_load e_okI 1 54)) t_178_54
noncomputable def n_178_52 : e_Y := u_ld f_okA f_l0 n_178_53
theorem t_178_52 : e_Sn 178 52 (e_un n_178_52) := u_ldAT f_l0_eq (s_aload (i := .aload_n 0) (len := 1) hq_178 (by decide +kernel) rfl (.inr ⟨0, rfl, rfl, rfl⟩) : e_Sn 178 52 (o_load e_okR 0 53)) t_178_53
noncomputable def n_178_49 : e_Y := n_178_58
theorem t_178_49 : e_Sn 178 49 (e_un n_178_49) := u_gotoT (s_goto (off := (9)) hq_178 (by decide +kernel) rfl : e_Sn 178 49 (o_goto 58)) t_178_58
noncomputable def n_178_48 : e_Y := u_push (.inl 2147483648) n_178_49
theorem t_178_48 : e_Sn 178 48 (e_un n_178_48) := u_pushT (s_iconst (n := (0)) hq_178 (by decide +kernel) rfl ⟨by decide +kernel, by decide +kernel⟩ : e_Sn 178 48 (o_push (.inl 2147483648) 49)) t_178_49
noncomputable def n_178_45 : e_Y := u_if y_ne0 (u_old2 (o_ifeq 52 48) 52 n_178_52 n_178_48) n_178_52 n_178_48
theorem t_178_45 : e_Sn 178 45 (e_un n_178_45) := u_ifeqT rfl (s_ifeq (off := (7)) hq_178 (by decide +kernel) rfl rfl : e_Sn 178 45 (o_ifeq 52 48)) t_178_52 t_178_48
noncomputable def n_178_42 : e_Y := u_callV 12 187 3 22 3 n_187_0 n_178_45
theorem t_178_42 : e_Sn 178 42 (e_un n_178_42) := u_callVT rfl (s_callV (ci := 12) (C := er_12) (T := et_12) (N := 5) (index := 128) hq_178 ho_178 hy_187 hp_187 hc_187 hi_187 hd_187 (List.mem_of_getElem? (i := 1996) (by decide +kernel)) hs_187 (List.mem_of_getElem? (i := 74) (by decide +kernel)) rfl (by decide +kernel) rfl : e_Sn 178 42 (o_callV (e_s1 12 187 3) 3 45)) t_187_0 t_178_45
noncomputable def n_178_41 : e_Y := u_push (.inl 2147483650) n_178_42
theorem t_178_41 : e_Sn 178 41 (e_un n_178_41) := u_pushT (s_iconst (n := (2)) hq_178 (by decide +kernel) rfl ⟨by decide +kernel, by decide +kernel⟩ : e_Sn 178 41 (o_push (.inl 2147483650) 42)) t_178_42
noncomputable def n_178_40 : e_Y := u_push (.inl 2147483648) n_178_41
theorem t_178_40 : e_Sn 178 40 (e_un n_178_40) := u_pushT (s_iconst (n := (0)) hq_178 (by decide +kernel) rfl ⟨by decide +kernel, by decide +kernel⟩ : e_Sn 178 40 (o_push (.inl 2147483648) 41)) t_178_41
noncomputable def n_178_37 : e_Y := n_178_41
theorem t_178_37 : e_Sn 178 37 (e_un n_178_37) := u_gotoT (s_goto (off := (4)) hq_178 (by decide +kernel) rfl : e_Sn 178 37 (o_goto 41)) t_178_41
noncomputable def n_178_36 : e_Y := u_push (.inl 2147483649) n_178_37
theorem t_178_36 : e_Sn 178 36 (e_un n_178_36) := u_pushT (s_iconst (n := (1)) hq_178 (by decide +kernel) rfl ⟨by decide +kernel, by decide +kernel⟩ : e_Sn 178 36 (o_push (.inl 2147483649) 37)) t_178_37
noncomputable def n_178_33 : e_Y := u_if y_ne0 (u_old2 (o_ifeq 36 40) 36 n_178_36 n_178_40) n_178_36 n_178_40
theorem t_178_33 : e_Sn 178 33 (e_un n_178_33) := u_ifeqT rfl (s_ifne (off := (7)) hq_178 (by decide +kernel) rfl rfl : e_Sn 178 33 (o_ifeq 36 40)) t_178_36 t_178_40
noncomputable def n_178_30 : e_Y := u_callS 162 6 25 3 n_162_0 n_178_33
theorem t_178_30 : e_Sn 178 30 (e_un n_178_30) := u_callST rfl (s_callS (index := 136) hq_178 ho_178 hy_162 hp_162 hc_162 hi_162 hd_162 (List.mem_of_getElem? (i := 1987) (by decide +kernel)) hs_162 (by decide +kernel) rfl : e_Sn 178 30 (o_callS 162 6 3 33)) t_162_0 t_178_33
noncomputable def n_178_29 : e_Y := u_push (e_L 9223372036854775809) n_178_30
theorem t_178_29 : e_Sn 178 29 (e_un n_178_29) := u_pushT (s_lconst (n := 1) hq_178 (by decide +kernel) rfl ⟨by decide +kernel, by decide +kernel⟩ : e_Sn 178 29 (o_push (e_L 9223372036854775809) 30)) t_178_30
noncomputable def n_178_28 : e_Y := u_push (e_L 9223372036854775808) n_178_29
theorem t_178_28 : e_Sn 178 28 (e_un n_178_28) := u_pushT (s_lconst (n := 0) hq_178 (by decide +kernel) rfl ⟨by decide +kernel, by decide +kernel⟩ : e_Sn 178 28 (o_push (e_L 9223372036854775808) 29)) t_178_29
noncomputable def n_178_27 : e_Y := u_old (o_i2l 28) n_178_28
theorem t_178_27 : e_Sn 178 27 (e_un n_178_27) := u_oldT (s_i2l hq_178 (by decide +kernel) rfl : e_Sn 178 27 (o_i2l 28)) t_178_28 e_congr_i2l
noncomputable def n_178_26 : e_Y := u_ld f_okI f_l2 n_178_27
theorem t_178_26 : e_Sn 178 26 (e_un n_178_26) := u_ldIT f_l2_eq (s_iload (i := .iload_n 2) (len := 1) hq_178 (by decide +kernel) rfl (.inr ⟨2, rfl, rfl, rfl⟩) : e_Sn 178 26 (o_load e_okI 2 27)) t_178_27
noncomputable def n_178_25 : e_Y := u_ld f_okA f_l0 n_178_26
theorem t_178_25 : e_Sn 178 25 (e_un n_178_25) := u_ldAT f_l0_eq (s_aload (i := .aload_n 0) (len := 1) hq_178 (by decide +kernel) rfl (.inr ⟨0, rfl, rfl, rfl⟩) : e_Sn 178 25 (o_load e_okR 0 26)) t_178_26
noncomputable def n_178_22 : e_Y := u_if y_ne0 (u_old2 (o_ifeq 25 48) 25 n_178_25 n_178_48) n_178_25 n_178_48
theorem t_178_22 : e_Sn 178 22 (e_un n_178_22) := u_ifeqT rfl (s_ifne (off := (26)) hq_178 (by decide +kernel) rfl rfl : e_Sn 178 22 (o_ifeq 25 48)) t_178_25 t_178_48
noncomputable def n_178_19 : e_Y := u_callV 12 195 3 22 3 n_195_0 n_178_22
theorem t_178_19 : e_Sn 178 19 (e_un n_178_19) := u_callVT rfl (s_callV (ci := 12) (C := er_12) (T := et_12) (N := 5) (index := 148) hq_178 ho_178 hy_195 hp_195 hc_195 hi_195 hd_195 (List.mem_of_getElem? (i := 1992) (by decide +kernel)) hs_195 (List.mem_of_getElem? (i := 73) (by decide +kernel)) rfl (by decide +kernel) rfl : e_Sn 178 19 (o_callV (e_s1 12 195 3) 3 22)) t_195_0 t_178_22
noncomputable def n_178_18 : e_Y := u_push (.inl 2147483649) n_178_19
theorem t_178_18 : e_Sn 178 18 (e_un n_178_18) := u_pushT (s_iconst (n := (1)) hq_178 (by decide +kernel) rfl ⟨by decide +kernel, by decide +kernel⟩ : e_Sn 178 18 (o_push (.inl 2147483649) 19)) t_178_19
noncomputable def n_178_17 : e_Y := u_push (.inl 2147483648) n_178_18
theorem t_178_17 : e_Sn 178 17 (e_un n_178_17) := u_pushT (s_iconst (n := (0)) hq_178 (by decide +kernel) rfl ⟨by decide +kernel, by decide +kernel⟩ : e_Sn 178 17 (o_push (.inl 2147483648) 18)) t_178_18
noncomputable def n_178_14 : e_Y := n_178_18
theorem t_178_14 : e_Sn 178 14 (e_un n_178_14) := u_gotoT (s_goto (off := (4)) hq_178 (by decide +kernel) rfl : e_Sn 178 14 (o_goto 18)) t_178_18
noncomputable def n_178_13 : e_Y := u_push (.inl 2147483649) n_178_14
theorem t_178_13 : e_Sn 178 13 (e_un n_178_13) := u_pushT (s_iconst (n := (1)) hq_178 (by decide +kernel) rfl ⟨by decide +kernel, by decide +kernel⟩ : e_Sn 178 13 (o_push (.inl 2147483649) 14)) t_178_14
noncomputable def n_178_10 : e_Y := u_if y_ne0 (u_old2 (o_ifeq 13 17) 13 n_178_13 n_178_17) n_178_13 n_178_17
theorem t_178_10 : e_Sn 178 10 (e_un n_178_10) := u_ifeqT rfl (s_ifne (off := (7)) hq_178 (by decide +kernel) rfl rfl : e_Sn 178 10 (o_ifeq 13 17)) t_178_13 t_178_17
noncomputable def n_178_7 : e_Y := u_callS 162 6 25 3 n_162_0 n_178_10
theorem t_178_7 : e_Sn 178 7 (e_un n_178_7) := u_callST rfl (s_callS (index := 136) hq_178 ho_178 hy_162 hp_162 hc_162 hi_162 hd_162 (List.mem_of_getElem? (i := 1987) (by decide +kernel)) hs_162 (by decide +kernel) rfl : e_Sn 178 7 (o_callS 162 6 3 10)) t_162_0 t_178_10
noncomputable def n_178_4 : e_Y := u_push (e_L 9223372036854775817) n_178_7
theorem t_178_4 : e_Sn 178 4 (e_un n_178_4) := u_pushT (s_ldc2 (index := 142) (v := (9)) hq_178 ho_178 (List.mem_of_getElem? (i := 1991) (by decide +kernel)) (by decide +kernel) rfl ⟨by decide +kernel, by decide +kernel⟩ : e_Sn 178 4 (o_push (e_L 9223372036854775817) 7)) t_178_7
noncomputable def n_178_3 : e_Y := u_push (e_L 9223372036854775808) n_178_4
theorem t_178_3 : e_Sn 178 3 (e_un n_178_3) := u_pushT (s_lconst (n := 0) hq_178 (by decide +kernel) rfl ⟨by decide +kernel, by decide +kernel⟩ : e_Sn 178 3 (o_push (e_L 9223372036854775808) 4)) t_178_4
noncomputable def n_178_2 : e_Y := u_old (o_i2l 3) n_178_3
theorem t_178_2 : e_Sn 178 2 (e_un n_178_2) := u_oldT (s_i2l hq_178 (by decide +kernel) rfl : e_Sn 178 2 (o_i2l 3)) t_178_3 e_congr_i2l
noncomputable def n_178_1 : e_Y := u_ld f_okI f_l1 n_178_2
theorem t_178_1 : e_Sn 178 1 (e_un n_178_1) := u_ldIT f_l1_eq (s_iload (i := .iload_n 1) (len := 1) hq_178 (by decide +kernel) rfl (.inr ⟨1, rfl, rfl, rfl⟩) : e_Sn 178 1 (o_load e_okI 1 2)) t_178_2
noncomputable def n_178_0 : e_Y := u_ld f_okA f_l0 n_178_1
theorem t_178_0 : e_Sn 178 0 (e_un n_178_0) := u_ldAT f_l0_eq (s_aload (i := .aload_n 0) (len := 1) hq_178 (by decide +kernel) rfl (.inr ⟨0, rfl, rfl, rfl⟩) : e_Sn 178 0 (o_load e_okR 0 1)) t_178_1
noncomputable def e_tb_178 : e_X := (e_lf 0 (e_un n_178_0))
theorem e_tk_178 : e_Tb 178 e_tb_178 := (e_lfT t_178_0)
end SN
