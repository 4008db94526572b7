/-! A PIECE, by program -/
section RW
theorem r_p5 : e_Ok (78, 96, 58000, r_bxL) 0 [some (e_R 408), some (e_R 420)] [] r_w5 (1514, 1514, 2282704) (.inl none) r_e4 (4778, 4778, 8972272) := e_piece (n := 4000000) r_t6T (by decide +kernel)
noncomputable def r_t5 : Nat → e_X := e_cutT 78 0 96 58000 r_bxL [some (e_R 408), some (e_R 420)] r_w5 (1514, 1514, 2282704) (.inl none) r_e4 (4778, 4778, 8972272) r_t6
theorem r_t5T : e_TT r_t5 := e_cutTT r_t6T r_p5
end RW
