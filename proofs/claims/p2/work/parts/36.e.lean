/-! A PIECE, by program -/
section RW
theorem r_p10 : e_Ok (77, 96, 58000, r_bxL) 0 [some (e_R 387), some (e_R 1752)] [] r_w10 (1792, 1792, 2557975) (.inl none) r_e6 (5348, 5348, 8974898) := e_piece (n := 4000000) r_t11T (by decide +kernel)
noncomputable def r_t10 : Nat → e_X := e_cutT 77 0 96 58000 r_bxL [some (e_R 387), some (e_R 1752)] r_w10 (1792, 1792, 2557975) (.inl none) r_e6 (5348, 5348, 8974898) r_t11
theorem r_t10T : e_TT r_t10 := e_cutTT r_t11T r_p10
end RW
