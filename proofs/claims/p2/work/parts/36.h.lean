/-! A PIECE, by program -/
section RW
theorem r_p7 : e_Ok (77, 96, 58000, r_bxL) 0 [some (e_R 387), some (e_R 389)] [] r_w7 (396, 396, 44495) (.inl none) r_e6 (5348, 5348, 8974898) := e_piece (n := 4000000) r_t8T (by decide +kernel)
noncomputable def r_t7 : Nat → e_X := e_cutT 77 0 96 58000 r_bxL [some (e_R 387), some (e_R 389)] r_w7 (396, 396, 44495) (.inl none) r_e6 (5348, 5348, 8974898) r_t8
theorem r_t7T : e_TT r_t7 := e_cutTT r_t8T r_p7
end RW
