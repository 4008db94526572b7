/-! A PIECE, by program -/
section RW
theorem r_p8 : e_Ok (77, 96, 58000, r_bxL) 0 [some (e_R 387), some (e_R 396)] [] r_w8 (399, 399, 44507) (.inl none) r_e6 (5348, 5348, 8974898) := e_piece (n := 4000000) r_t9T (by decide +kernel)
noncomputable def r_t8 : Nat → e_X := e_cutT 77 0 96 58000 r_bxL [some (e_R 387), some (e_R 396)] r_w8 (399, 399, 44507) (.inl none) r_e6 (5348, 5348, 8974898) r_t9
theorem r_t8T : e_TT r_t8 := e_cutTT r_t9T r_p8
end RW
