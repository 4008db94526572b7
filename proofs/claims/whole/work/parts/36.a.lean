/-! A PIECE, by program -/
section RW
theorem r_p7 : e_Ok (78, 96, 58000, r_bxL) 0 [some (e_R 408), some (e_R 420)] [] r_w7 (3714, 3714, 6791604) (.inl none) r_e4 (4778, 4778, 8972272) := e_piece (n := 4000000) r_tabT (by decide +kernel)
noncomputable def r_t7 : Nat → e_X := e_cutT 78 0 96 58000 r_bxL [some (e_R 408), some (e_R 420)] r_w7 (3714, 3714, 6791604) (.inl none) r_e4 (4778, 4778, 8972272) r_tab
theorem r_t7T : e_TT r_t7 := e_cutTT r_tabT r_p7
end RW
