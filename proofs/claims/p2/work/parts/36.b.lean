/-! A PIECE, by program -/
section RW
theorem r_p13 : e_Ok (77, 96, 58000, r_bxL) 0 [some (e_R 387), some (e_R 3852)] [] r_w13 (3892, 3892, 6346627) (.inl none) r_e6 (5348, 5348, 8974898) := e_piece (n := 4000000) r_t14T (by decide +kernel)
noncomputable def r_t13 : Nat → e_X := e_cutT 77 0 96 58000 r_bxL [some (e_R 387), some (e_R 3852)] r_w13 (3892, 3892, 6346627) (.inl none) r_e6 (5348, 5348, 8974898) r_t14
theorem r_t13T : e_TT r_t13 := e_cutTT r_t14T r_p13
end RW
