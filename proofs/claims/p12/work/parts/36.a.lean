/-! A PIECE, by program -/
section RW
theorem r_p10 : e_Ok (80, 96, 58000, r_bxL) 0 [some (e_R 388), some (e_R 3619)] [] r_w10 (3939, 3939, 7189315) (.inl none) r_e6 (4821, 4821, 8972436) := e_piece (n := 4000000) r_tabT (by decide +kernel)
noncomputable def r_t10 : Nat → e_X := e_cutT 80 0 96 58000 r_bxL [some (e_R 388), some (e_R 3619)] r_w10 (3939, 3939, 7189315) (.inl none) r_e6 (4821, 4821, 8972436) r_tab
theorem r_t10T : e_TT r_t10 := e_cutTT r_tabT r_p10
end RW
