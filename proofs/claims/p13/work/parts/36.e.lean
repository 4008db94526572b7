/-! PIECES, by program -/
section RW
theorem r_p11 : e_Ok (3, 98, 59000, r_bxL) 36 [some (e_R 0), some (e_I 2147483648), some (e_I 2147484749)] [] r_w11 (361, 361, 32958) (.inl (some (e_I 2147483648))) r_e0 (361, 361, 32958) := e_piece (n := 4000000) r_t12T (by decide +kernel)
noncomputable def r_t11 : Nat → e_X := e_cutT 3 36 98 59000 r_bxL [some (e_R 0), some (e_I 2147483648), some (e_I 2147484749)] r_w11 (361, 361, 32958) (.inl (some (e_I 2147483648))) r_e0 (361, 361, 32958) r_tab
theorem r_t11T : e_TT r_t11 := e_cutTT r_tabT r_p11
theorem r_p10 : e_Ok (3, 98, 59000, r_bxL) 36 [some (e_R 0), some (e_I 2147483648), some (e_I 2147484649)] [] r_w10 (361, 361, 32958) (.inl (some (e_I 2147483648))) r_e0 (361, 361, 32958) := e_piece (n := 4000000) r_t11T (by decide +kernel)
noncomputable def r_t10 : Nat → e_X := e_cutT 3 36 98 59000 r_bxL [some (e_R 0), some (e_I 2147483648), some (e_I 2147484649)] r_w10 (361, 361, 32958) (.inl (some (e_I 2147483648))) r_e0 (361, 361, 32958) r_tab
theorem r_t10T : e_TT r_t10 := e_cutTT r_tabT r_p10
theorem r_p9 : e_Ok (3, 98, 59000, r_bxL) 36 [some (e_R 0), some (e_I 2147483648), some (e_I 2147484549)] [] r_w9 (361, 361, 32958) (.inl (some (e_I 2147483648))) r_e0 (361, 361, 32958) := e_piece (n := 4000000) r_t10T (by decide +kernel)
noncomputable def r_t9 : Nat → e_X := e_cutT 3 36 98 59000 r_bxL [some (e_R 0), some (e_I 2147483648), some (e_I 2147484549)] r_w9 (361, 361, 32958) (.inl (some (e_I 2147483648))) r_e0 (361, 361, 32958) r_tab
theorem r_t9T : e_TT r_t9 := e_cutTT r_tabT r_p9
theorem r_p8 : e_Ok (3, 98, 59000, r_bxL) 36 [some (e_R 0), some (e_I 2147483648), some (e_I 2147484449)] [] r_w8 (361, 361, 32958) (.inl (some (e_I 2147483648))) r_e0 (361, 361, 32958) := e_piece (n := 4000000) r_t9T (by decide +kernel)
noncomputable def r_t8 : Nat → e_X := e_cutT 3 36 98 59000 r_bxL [some (e_R 0), some (e_I 2147483648), some (e_I 2147484449)] r_w8 (361, 361, 32958) (.inl (some (e_I 2147483648))) r_e0 (361, 361, 32958) r_tab
theorem r_t8T : e_TT r_t8 := e_cutTT r_tabT r_p8
theorem r_p7 : e_Ok (3, 98, 59000, r_bxL) 36 [some (e_R 0), some (e_I 2147483648), some (e_I 2147484349)] [] r_w7 (361, 361, 32958) (.inl (some (e_I 2147483648))) r_e0 (361, 361, 32958) := e_piece (n := 4000000) r_t8T (by decide +kernel)
noncomputable def r_t7 : Nat → e_X := e_cutT 3 36 98 59000 r_bxL [some (e_R 0), some (e_I 2147483648), some (e_I 2147484349)] r_w7 (361, 361, 32958) (.inl (some (e_I 2147483648))) r_e0 (361, 361, 32958) r_tab
theorem r_t7T : e_TT r_t7 := e_cutTT r_tabT r_p7
theorem r_p6 : e_Ok (3, 98, 59000, r_bxL) 36 [some (e_R 0), some (e_I 2147483648), some (e_I 2147484249)] [] r_w6 (361, 361, 32958) (.inl (some (e_I 2147483648))) r_e0 (361, 361, 32958) := e_piece (n := 4000000) r_t7T (by decide +kernel)
noncomputable def r_t6 : Nat → e_X := e_cutT 3 36 98 59000 r_bxL [some (e_R 0), some (e_I 2147483648), some (e_I 2147484249)] r_w6 (361, 361, 32958) (.inl (some (e_I 2147483648))) r_e0 (361, 361, 32958) r_tab
theorem r_t6T : e_TT r_t6 := e_cutTT r_tabT r_p6
theorem r_p5 : e_Ok (3, 98, 59000, r_bxL) 36 [some (e_R 0), some (e_I 2147483648), some (e_I 2147484149)] [] r_w5 (361, 361, 32958) (.inl (some (e_I 2147483648))) r_e0 (361, 361, 32958) := e_piece (n := 4000000) r_t6T (by decide +kernel)
noncomputable def r_t5 : Nat → e_X := e_cutT 3 36 98 59000 r_bxL [some (e_R 0), some (e_I 2147483648), some (e_I 2147484149)] r_w5 (361, 361, 32958) (.inl (some (e_I 2147483648))) r_e0 (361, 361, 32958) r_tab
theorem r_t5T : e_TT r_t5 := e_cutTT r_tabT r_p5
theorem r_p4 : e_Ok (3, 98, 59000, r_bxL) 36 [some (e_R 0), some (e_I 2147483648), some (e_I 2147484049)] [] r_w4 (361, 361, 32958) (.inl (some (e_I 2147483648))) r_e0 (361, 361, 32958) := e_piece (n := 4000000) r_t5T (by decide +kernel)
noncomputable def r_t4 : Nat → e_X := e_cutT 3 36 98 59000 r_bxL [some (e_R 0), some (e_I 2147483648), some (e_I 2147484049)] r_w4 (361, 361, 32958) (.inl (some (e_I 2147483648))) r_e0 (361, 361, 32958) r_tab
theorem r_t4T : e_TT r_t4 := e_cutTT r_tabT r_p4
end RW
