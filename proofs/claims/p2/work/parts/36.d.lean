/-! A PIECE, by program -/
section RW
theorem r_p11 : e_Ok (77, 96, 58000, r_bxL) 0 [some (e_R 387), some (e_R 2452)] [] r_w11 (2492, 2492, 3820859) (.inl none) r_e6 (5348, 5348, 8974898) := e_piece (n := 4000000) r_t12T (by decide +kernel)
noncomputable def r_t11 : Nat → e_X := e_cutT 77 0 96 58000 r_bxL [some (e_R 387), some (e_R 2452)] r_w11 (2492, 2492, 3820859) (.inl none) r_e6 (5348, 5348, 8974898) r_t12
theorem r_t11T : e_TT r_t11 := e_cutTT r_t12T r_p11
end RW
