/-! PIECES, by program -/
section RW
theorem r_p27 : e_Ok (80, 96, 58000, r_bxL) 0 [some (e_R 388), some (e_R 1207)] [] r_w27 (1395, 1395, 2049001) (.inl none) r_e22 (4821, 4821, 8972436) := e_piece (n := 4000000) r_t28T (by decide +kernel)
noncomputable def r_t27 : Nat → e_X := e_cutT 80 0 96 58000 r_bxL [some (e_R 388), some (e_R 1207)] r_w27 (1395, 1395, 2049001) (.inl none) r_e22 (4821, 4821, 8972436) r_tab
theorem r_t27T : e_TT r_t27 := e_cutTT r_tabT r_p27
theorem r_p26 : e_Ok (80, 96, 58000, r_bxL) 0 [some (e_R 388), some (e_R 805)] [] r_w26 (1195, 1195, 1651370) (.inl none) r_e22 (4821, 4821, 8972436) := e_piece (n := 4000000) r_t27T (by decide +kernel)
noncomputable def r_t26 : Nat → e_X := e_cutT 80 0 96 58000 r_bxL [some (e_R 388), some (e_R 805)] r_w26 (1195, 1195, 1651370) (.inl none) r_e22 (4821, 4821, 8972436) r_tab
theorem r_t26T : e_TT r_t26 := e_cutTT r_tabT r_p26
theorem r_p25 : e_Ok (80, 96, 58000, r_bxL) 0 [some (e_R 388), some (e_R 805)] [] r_w25 (995, 995, 1241470) (.inl none) r_e22 (4821, 4821, 8972436) := e_piece (n := 4000000) r_t26T (by decide +kernel)
noncomputable def r_t25 : Nat → e_X := e_cutT 80 0 96 58000 r_bxL [some (e_R 388), some (e_R 805)] r_w25 (995, 995, 1241470) (.inl none) r_e22 (4821, 4821, 8972436) r_tab
theorem r_t25T : e_TT r_t25 := e_cutTT r_tabT r_p25
theorem r_p24 : e_Ok (80, 96, 58000, r_bxL) 0 [some (e_R 388), some (e_R 403)] [] r_w24 (795, 795, 843839) (.inl none) r_e22 (4821, 4821, 8972436) := e_piece (n := 4000000) r_t25T (by decide +kernel)
noncomputable def r_t24 : Nat → e_X := e_cutT 80 0 96 58000 r_bxL [some (e_R 388), some (e_R 403)] r_w24 (795, 795, 843839) (.inl none) r_e22 (4821, 4821, 8972436) r_tab
theorem r_t24T : e_TT r_t24 := e_cutTT r_tabT r_p24
theorem r_p23 : e_Ok (80, 96, 58000, r_bxL) 0 [some (e_R 388), some (e_R 403)] [] r_w23 (595, 595, 433939) (.inl none) r_e22 (4821, 4821, 8972436) := e_piece (n := 4000000) r_t24T (by decide +kernel)
noncomputable def r_t23 : Nat → e_X := e_cutT 80 0 96 58000 r_bxL [some (e_R 388), some (e_R 403)] r_w23 (595, 595, 433939) (.inl none) r_e22 (4821, 4821, 8972436) r_tab
theorem r_t23T : e_TT r_t23 := e_cutTT r_tabT r_p23
theorem r_p22 : e_Ok (80, 96, 58000, r_bxL) 0 [some (e_R 388), some (e_R 390)] [] r_w22 (394, 394, 44481) (.inl none) r_e22 (4821, 4821, 8972436) := e_piece (n := 4000000) r_t23T (by decide +kernel)
noncomputable def r_t22 : Nat → e_X := e_cutT 80 0 96 58000 r_bxL [some (e_R 388), some (e_R 390)] r_w22 (394, 394, 44481) (.inl none) r_e22 (4821, 4821, 8972436) r_tab
theorem r_t22T : e_TT r_t22 := e_cutTT r_tabT r_p22
noncomputable def r_u22 : Nat → e_X := e_cutT 80 0 96 58000 r_bxL [some (e_R 388), some (e_R 390)] r_w22 (394, 394, 44481) (.inl none) r_e22 (4821, 4821, 8972436) r_tab
theorem r_u22T : e_TT r_u22 := e_cutTT r_tabT r_p22
theorem r_p21 : e_Ok (3, 98, 59000, r_bxL) 36 [some (e_R 0), some (e_I 2147483648), some (e_I 2147485749)] [] r_w21 (361, 361, 32958) (.inl (some (e_I 2147483648))) r_e0 (361, 361, 32958) := e_piece (n := 4000000) r_tabT (by decide +kernel)
noncomputable def r_t21 : Nat → e_X := e_cutT 3 36 98 59000 r_bxL [some (e_R 0), some (e_I 2147483648), some (e_I 2147485749)] r_w21 (361, 361, 32958) (.inl (some (e_I 2147483648))) r_e0 (361, 361, 32958) r_tab
theorem r_t21T : e_TT r_t21 := e_cutTT r_tabT r_p21
theorem r_p20 : e_Ok (3, 98, 59000, r_bxL) 36 [some (e_R 0), some (e_I 2147483648), some (e_I 2147485649)] [] r_w20 (361, 361, 32958) (.inl (some (e_I 2147483648))) r_e0 (361, 361, 32958) := e_piece (n := 4000000) r_t21T (by decide +kernel)
noncomputable def r_t20 : Nat → e_X := e_cutT 3 36 98 59000 r_bxL [some (e_R 0), some (e_I 2147483648), some (e_I 2147485649)] r_w20 (361, 361, 32958) (.inl (some (e_I 2147483648))) r_e0 (361, 361, 32958) r_tab
theorem r_t20T : e_TT r_t20 := e_cutTT r_tabT r_p20
end RW
