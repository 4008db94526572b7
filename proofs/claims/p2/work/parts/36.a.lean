/-! A PIECE, by program -/
section RW
theorem r_p14 : e_Ok (77, 96, 58000, r_bxL) 0 [some (e_R 387), some (e_R 4552)] [] r_w14 (4592, 4592, 7609511) (.inl none) r_e6 (5348, 5348, 8974898) := e_piece (n := 4000000) r_tabT (by decide +kernel)
noncomputable def r_t14 : Nat → e_X := e_cutT 77 0 96 58000 r_bxL [some (e_R 387), some (e_R 4552)] r_w14 (4592, 4592, 7609511) (.inl none) r_e6 (5348, 5348, 8974898) r_tab
theorem r_t14T : e_TT r_t14 := e_cutTT r_tabT r_p14
end RW
