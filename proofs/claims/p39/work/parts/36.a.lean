/-! PIECES, by program -/
section RW
theorem r_p11 : e_Ok (80, 96, 58000, r_bxL) 0 [some (e_R 388), some (e_R 3619)] [] r_w11 (3995, 3995, 7304087) (.inl none) r_e6 (4821, 4821, 8972436) := e_piece (n := 4000000) r_tabT (by decide +kernel)
noncomputable def r_t11 : Nat → e_X := e_cutT 80 0 96 58000 r_bxL [some (e_R 388), some (e_R 3619)] r_w11 (3995, 3995, 7304087) (.inl none) r_e6 (4821, 4821, 8972436) r_tab
theorem r_t11T : e_TT r_t11 := e_cutTT r_tabT r_p11
theorem r_p10 : e_Ok (80, 96, 58000, r_bxL) 0 [some (e_R 388), some (e_R 3217)] [] r_w10 (3275, 3275, 5840716) (.inl none) r_e6 (4821, 4821, 8972436) := e_piece (n := 4000000) r_t11T (by decide +kernel)
noncomputable def r_t10 : Nat → e_X := e_cutT 80 0 96 58000 r_bxL [some (e_R 388), some (e_R 3217)] r_w10 (3275, 3275, 5840716) (.inl none) r_e6 (4821, 4821, 8972436) r_tab
theorem r_t10T : e_TT r_t10 := e_cutTT r_tabT r_p10
theorem r_p9 : e_Ok (80, 96, 58000, r_bxL) 0 [some (e_R 388), some (e_R 2413)] [] r_w9 (2555, 2555, 4389614) (.inl none) r_e6 (4821, 4821, 8972436) := e_piece (n := 4000000) r_t10T (by decide +kernel)
noncomputable def r_t9 : Nat → e_X := e_cutT 80 0 96 58000 r_bxL [some (e_R 388), some (e_R 2413)] r_w9 (2555, 2555, 4389614) (.inl none) r_e6 (4821, 4821, 8972436) r_tab
theorem r_t9T : e_TT r_t9 := e_cutTT r_tabT r_p9
end RW
