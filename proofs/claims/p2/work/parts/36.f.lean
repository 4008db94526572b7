/-! A PIECE, by program -/
section RW
theorem r_p9 : e_Ok (77, 96, 58000, r_bxL) 0 [some (e_R 387), some (e_R 1052)] [] r_w9 (1092, 1092, 1295091) (.inl none) r_e6 (5348, 5348, 8974898) := e_piece (n := 4000000) r_t10T (by decide +kernel)
noncomputable def r_t9 : Nat → e_X := e_cutT 77 0 96 58000 r_bxL [some (e_R 387), some (e_R 1052)] r_w9 (1092, 1092, 1295091) (.inl none) r_e6 (5348, 5348, 8974898) r_t10
theorem r_t9T : e_TT r_t9 := e_cutTT r_t10T r_p9
end RW
