/-! A PIECE, by program -/
section RW
theorem r_p4 : e_Ok (78, 96, 58000, r_bxL) 0 [some (e_R 408), some (e_R 410)] [] r_w4 (414, 414, 44585) (.inl none) r_e4 (4778, 4778, 8972272) := e_piece (n := 4000000) r_t5T (by decide +kernel)
noncomputable def r_t4 : Nat → e_X := e_cutT 78 0 96 58000 r_bxL [some (e_R 408), some (e_R 410)] r_w4 (414, 414, 44585) (.inl none) r_e4 (4778, 4778, 8972272) r_t5
theorem r_t4T : e_TT r_t4 := e_cutTT r_t5T r_p4
end RW
