/-! A PIECE, by program -/
section RW
theorem r_p9 : e_Ok (80, 96, 58000, r_bxL) 0 [some (e_R 388), some (e_R 2815)] [] r_w9 (3053, 3053, 5397996) (.inl none) r_e6 (4821, 4821, 8972436) := e_piece (n := 4000000) r_t10T (by decide +kernel)
noncomputable def r_t9 : Nat → e_X := e_cutT 80 0 96 58000 r_bxL [some (e_R 388), some (e_R 2815)] r_w9 (3053, 3053, 5397996) (.inl none) r_e6 (4821, 4821, 8972436) r_tab
theorem r_t9T : e_TT r_t9 := e_cutTT r_tabT r_p9
end RW
