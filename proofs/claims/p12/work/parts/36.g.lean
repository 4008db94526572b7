/-! A PIECE, by program -/
section RW
theorem r_p4 : e_Ok (3, 98, 59000, r_bxL) 36 [some (e_R 0), some (e_I 2147483648), some (e_I 2147485129)] [] r_w4 (361, 361, 32958) (.inl (some (e_I 2147483648))) r_e0 (361, 361, 32958) := e_piece (n := 4000000) r_t5T (by decide +kernel)
noncomputable def r_t4 : Nat → e_X := e_cutT 3 36 98 59000 r_bxL [some (e_R 0), some (e_I 2147483648), some (e_I 2147485129)] r_w4 (361, 361, 32958) (.inl (some (e_I 2147483648))) r_e0 (361, 361, 32958) r_tab
theorem r_t4T : e_TT r_t4 := e_cutTT r_tabT r_p4
end RW
