/-! PIECES, by program -/
section RW
theorem r_p5 : e_Ok (3, 98, 59000, r_bxL) 36 [some (e_R 0), some (e_I 2147483648), some (e_I 2147485449)] [] r_w5 (361, 361, 32958) (.inl (some (e_I 2147483648))) r_e0 (361, 361, 32958) := e_piece (n := 4000000) r_tabT (by decide +kernel)
noncomputable def r_t5 : Nat → e_X := e_cutT 3 36 98 59000 r_bxL [some (e_R 0), some (e_I 2147483648), some (e_I 2147485449)] r_w5 (361, 361, 32958) (.inl (some (e_I 2147483648))) r_e0 (361, 361, 32958) r_tab
theorem r_t5T : e_TT r_t5 := e_cutTT r_tabT r_p5
theorem r_p4 : e_Ok (3, 98, 59000, r_bxL) 36 [some (e_R 0), some (e_I 2147483648), some (e_I 2147485089)] [] r_w4 (361, 361, 32958) (.inl (some (e_I 2147483648))) r_e0 (361, 361, 32958) := e_piece (n := 4000000) r_t5T (by decide +kernel)
noncomputable def r_t4 : Nat → e_X := e_cutT 3 36 98 59000 r_bxL [some (e_R 0), some (e_I 2147483648), some (e_I 2147485089)] r_w4 (361, 361, 32958) (.inl (some (e_I 2147483648))) r_e0 (361, 361, 32958) r_tab
theorem r_t4T : e_TT r_t4 := e_cutTT r_tabT r_p4
theorem r_p3 : e_Ok (3, 98, 59000, r_bxL) 36 [some (e_R 0), some (e_I 2147483648), some (e_I 2147484729)] [] r_w3 (361, 361, 32958) (.inl (some (e_I 2147483648))) r_e0 (361, 361, 32958) := e_piece (n := 4000000) r_t4T (by decide +kernel)
noncomputable def r_t3 : Nat → e_X := e_cutT 3 36 98 59000 r_bxL [some (e_R 0), some (e_I 2147483648), some (e_I 2147484729)] r_w3 (361, 361, 32958) (.inl (some (e_I 2147483648))) r_e0 (361, 361, 32958) r_tab
theorem r_t3T : e_TT r_t3 := e_cutTT r_tabT r_p3
end RW
