/-! PIECES, by program -/
section RW
theorem r_p35 : e_Ok (80, 96, 58000, r_bxL) 0 [some (e_R 388), some (e_R 2815)] [] r_w35 (2995, 2995, 5279125) (.inl none) r_e22 (4821, 4821, 8972436) := e_piece (n := 4000000) r_t36T (by decide +kernel)
noncomputable def r_t35 : Nat → e_X := e_cutT 80 0 96 58000 r_bxL [some (e_R 388), some (e_R 2815)] r_w35 (2995, 2995, 5279125) (.inl none) r_e22 (4821, 4821, 8972436) r_tab
theorem r_t35T : e_TT r_t35 := e_cutTT r_tabT r_p35
theorem r_p34 : e_Ok (80, 96, 58000, r_bxL) 0 [some (e_R 388), some (e_R 2413)] [] r_w34 (2795, 2795, 4881494) (.inl none) r_e22 (4821, 4821, 8972436) := e_piece (n := 4000000) r_t35T (by decide +kernel)
noncomputable def r_t34 : Nat → e_X := e_cutT 80 0 96 58000 r_bxL [some (e_R 388), some (e_R 2413)] r_w34 (2795, 2795, 4881494) (.inl none) r_e22 (4821, 4821, 8972436) r_tab
theorem r_t34T : e_TT r_t34 := e_cutTT r_tabT r_p34
theorem r_p33 : e_Ok (80, 96, 58000, r_bxL) 0 [some (e_R 388), some (e_R 2413)] [] r_w33 (2595, 2595, 4471594) (.inl none) r_e22 (4821, 4821, 8972436) := e_piece (n := 4000000) r_t34T (by decide +kernel)
noncomputable def r_t33 : Nat → e_X := e_cutT 80 0 96 58000 r_bxL [some (e_R 388), some (e_R 2413)] r_w33 (2595, 2595, 4471594) (.inl none) r_e22 (4821, 4821, 8972436) r_tab
theorem r_t33T : e_TT r_t33 := e_cutTT r_tabT r_p33
theorem r_p32 : e_Ok (80, 96, 58000, r_bxL) 0 [some (e_R 388), some (e_R 2011)] [] r_w32 (2395, 2395, 4073963) (.inl none) r_e22 (4821, 4821, 8972436) := e_piece (n := 4000000) r_t33T (by decide +kernel)
noncomputable def r_t32 : Nat → e_X := e_cutT 80 0 96 58000 r_bxL [some (e_R 388), some (e_R 2011)] r_w32 (2395, 2395, 4073963) (.inl none) r_e22 (4821, 4821, 8972436) r_tab
theorem r_t32T : e_TT r_t32 := e_cutTT r_tabT r_p32
theorem r_p31 : e_Ok (80, 96, 58000, r_bxL) 0 [some (e_R 388), some (e_R 2011)] [] r_w31 (2195, 2195, 3664063) (.inl none) r_e22 (4821, 4821, 8972436) := e_piece (n := 4000000) r_t32T (by decide +kernel)
noncomputable def r_t31 : Nat → e_X := e_cutT 80 0 96 58000 r_bxL [some (e_R 388), some (e_R 2011)] r_w31 (2195, 2195, 3664063) (.inl none) r_e22 (4821, 4821, 8972436) r_tab
theorem r_t31T : e_TT r_t31 := e_cutTT r_tabT r_p31
theorem r_p30 : e_Ok (80, 96, 58000, r_bxL) 0 [some (e_R 388), some (e_R 1609)] [] r_w30 (1995, 1995, 3266432) (.inl none) r_e22 (4821, 4821, 8972436) := e_piece (n := 4000000) r_t31T (by decide +kernel)
noncomputable def r_t30 : Nat → e_X := e_cutT 80 0 96 58000 r_bxL [some (e_R 388), some (e_R 1609)] r_w30 (1995, 1995, 3266432) (.inl none) r_e22 (4821, 4821, 8972436) r_tab
theorem r_t30T : e_TT r_t30 := e_cutTT r_tabT r_p30
theorem r_p29 : e_Ok (80, 96, 58000, r_bxL) 0 [some (e_R 388), some (e_R 1609)] [] r_w29 (1795, 1795, 2856532) (.inl none) r_e22 (4821, 4821, 8972436) := e_piece (n := 4000000) r_t30T (by decide +kernel)
noncomputable def r_t29 : Nat → e_X := e_cutT 80 0 96 58000 r_bxL [some (e_R 388), some (e_R 1609)] r_w29 (1795, 1795, 2856532) (.inl none) r_e22 (4821, 4821, 8972436) r_tab
theorem r_t29T : e_TT r_t29 := e_cutTT r_tabT r_p29
theorem r_p28 : e_Ok (80, 96, 58000, r_bxL) 0 [some (e_R 388), some (e_R 1207)] [] r_w28 (1595, 1595, 2458901) (.inl none) r_e22 (4821, 4821, 8972436) := e_piece (n := 4000000) r_t29T (by decide +kernel)
noncomputable def r_t28 : Nat → e_X := e_cutT 80 0 96 58000 r_bxL [some (e_R 388), some (e_R 1207)] r_w28 (1595, 1595, 2458901) (.inl none) r_e22 (4821, 4821, 8972436) r_tab
theorem r_t28T : e_TT r_t28 := e_cutTT r_tabT r_p28
end RW
