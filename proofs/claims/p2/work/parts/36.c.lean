/-! A PIECE, by program -/
section RW
theorem r_p12 : e_Ok (77, 96, 58000, r_bxL) 0 [some (e_R 387), some (e_R 3152)] [] r_w12 (3192, 3192, 5083743) (.inl none) r_e6 (5348, 5348, 8974898) := e_piece (n := 4000000) r_t13T (by decide +kernel)
noncomputable def r_t12 : Nat → e_X := e_cutT 77 0 96 58000 r_bxL [some (e_R 387), some (e_R 3152)] r_w12 (3192, 3192, 5083743) (.inl none) r_e6 (5348, 5348, 8974898) r_t13
theorem r_t12T : e_TT r_t12 := e_cutTT r_t13T r_p12
end RW
