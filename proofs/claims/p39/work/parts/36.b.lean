/-! PIECES, by program -/
section RW
theorem r_p8 : e_Ok (80, 96, 58000, r_bxL) 0 [some (e_R 388), some (e_R 1609)] [] r_w8 (1835, 1835, 2938512) (.inl none) r_e6 (4821, 4821, 8972436) := e_piece (n := 4000000) r_t9T (by decide +kernel)
noncomputable def r_t8 : Nat → e_X := e_cutT 80 0 96 58000 r_bxL [some (e_R 388), some (e_R 1609)] r_w8 (1835, 1835, 2938512) (.inl none) r_e6 (4821, 4821, 8972436) r_tab
theorem r_t8T : e_TT r_t8 := e_cutTT r_tabT r_p8
theorem r_p7 : e_Ok (80, 96, 58000, r_bxL) 0 [some (e_R 388), some (e_R 805)] [] r_w7 (1115, 1115, 1487410) (.inl none) r_e6 (4821, 4821, 8972436) := e_piece (n := 4000000) r_t8T (by decide +kernel)
noncomputable def r_t7 : Nat → e_X := e_cutT 80 0 96 58000 r_bxL [some (e_R 388), some (e_R 805)] r_w7 (1115, 1115, 1487410) (.inl none) r_e6 (4821, 4821, 8972436) r_tab
theorem r_t7T : e_TT r_t7 := e_cutTT r_tabT r_p7
theorem r_p6 : e_Ok (80, 96, 58000, r_bxL) 0 [some (e_R 388), some (e_R 390)] [] r_w6 (394, 394, 44481) (.inl none) r_e6 (4821, 4821, 8972436) := e_piece (n := 4000000) r_t7T (by decide +kernel)
noncomputable def r_t6 : Nat → e_X := e_cutT 80 0 96 58000 r_bxL [some (e_R 388), some (e_R 390)] r_w6 (394, 394, 44481) (.inl none) r_e6 (4821, 4821, 8972436) r_tab
theorem r_t6T : e_TT r_t6 := e_cutTT r_tabT r_p6
noncomputable def r_u6 : Nat → e_X := e_cutT 80 0 96 58000 r_bxL [some (e_R 388), some (e_R 390)] r_w6 (394, 394, 44481) (.inl none) r_e6 (4821, 4821, 8972436) r_tab
theorem r_u6T : e_TT r_u6 := e_cutTT r_tabT r_p6
end RW
