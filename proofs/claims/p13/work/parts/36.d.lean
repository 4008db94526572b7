/-! PIECES, by program -/
section RW
theorem r_p19 : e_Ok (3, 98, 59000, r_bxL) 36 [some (e_R 0), some (e_I 2147483648), some (e_I 2147485549)] [] r_w19 (361, 361, 32958) (.inl (some (e_I 2147483648))) r_e0 (361, 361, 32958) := e_piece (n := 4000000) r_t20T (by decide +kernel)
noncomputable def r_t19 : Nat → e_X := e_cutT 3 36 98 59000 r_bxL [some (e_R 0), some (e_I 2147483648), some (e_I 2147485549)] r_w19 (361, 361, 32958) (.inl (some (e_I 2147483648))) r_e0 (361, 361, 32958) r_tab
theorem r_t19T : e_TT r_t19 := e_cutTT r_tabT r_p19
theorem r_p18 : e_Ok (3, 98, 59000, r_bxL) 36 [some (e_R 0), some (e_I 2147483648), some (e_I 2147485449)] [] r_w18 (361, 361, 32958) (.inl (some (e_I 2147483648))) r_e0 (361, 361, 32958) := e_piece (n := 4000000) r_t19T (by decide +kernel)
noncomputable def r_t18 : Nat → e_X := e_cutT 3 36 98 59000 r_bxL [some (e_R 0), some (e_I 2147483648), some (e_I 2147485449)] r_w18 (361, 361, 32958) (.inl (some (e_I 2147483648))) r_e0 (361, 361, 32958) r_tab
theorem r_t18T : e_TT r_t18 := e_cutTT r_tabT r_p18
theorem r_p17 : e_Ok (3, 98, 59000, r_bxL) 36 [some (e_R 0), some (e_I 2147483648), some (e_I 2147485349)] [] r_w17 (361, 361, 32958) (.inl (some (e_I 2147483648))) r_e0 (361, 361, 32958) := e_piece (n := 4000000) r_t18T (by decide +kernel)
noncomputable def r_t17 : Nat → e_X := e_cutT 3 36 98 59000 r_bxL [some (e_R 0), some (e_I 2147483648), some (e_I 2147485349)] r_w17 (361, 361, 32958) (.inl (some (e_I 2147483648))) r_e0 (361, 361, 32958) r_tab
theorem r_t17T : e_TT r_t17 := e_cutTT r_tabT r_p17
theorem r_p16 : e_Ok (3, 98, 59000, r_bxL) 36 [some (e_R 0), some (e_I 2147483648), some (e_I 2147485249)] [] r_w16 (361, 361, 32958) (.inl (some (e_I 2147483648))) r_e0 (361, 361, 32958) := e_piece (n := 4000000) r_t17T (by decide +kernel)
noncomputable def r_t16 : Nat → e_X := e_cutT 3 36 98 59000 r_bxL [some (e_R 0), some (e_I 2147483648), some (e_I 2147485249)] r_w16 (361, 361, 32958) (.inl (some (e_I 2147483648))) r_e0 (361, 361, 32958) r_tab
theorem r_t16T : e_TT r_t16 := e_cutTT r_tabT r_p16
theorem r_p15 : e_Ok (3, 98, 59000, r_bxL) 36 [some (e_R 0), some (e_I 2147483648), some (e_I 2147485149)] [] r_w15 (361, 361, 32958) (.inl (some (e_I 2147483648))) r_e0 (361, 361, 32958) := e_piece (n := 4000000) r_t16T (by decide +kernel)
noncomputable def r_t15 : Nat → e_X := e_cutT 3 36 98 59000 r_bxL [some (e_R 0), some (e_I 2147483648), some (e_I 2147485149)] r_w15 (361, 361, 32958) (.inl (some (e_I 2147483648))) r_e0 (361, 361, 32958) r_tab
theorem r_t15T : e_TT r_t15 := e_cutTT r_tabT r_p15
theorem r_p14 : e_Ok (3, 98, 59000, r_bxL) 36 [some (e_R 0), some (e_I 2147483648), some (e_I 2147485049)] [] r_w14 (361, 361, 32958) (.inl (some (e_I 2147483648))) r_e0 (361, 361, 32958) := e_piece (n := 4000000) r_t15T (by decide +kernel)
noncomputable def r_t14 : Nat → e_X := e_cutT 3 36 98 59000 r_bxL [some (e_R 0), some (e_I 2147483648), some (e_I 2147485049)] r_w14 (361, 361, 32958) (.inl (some (e_I 2147483648))) r_e0 (361, 361, 32958) r_tab
theorem r_t14T : e_TT r_t14 := e_cutTT r_tabT r_p14
theorem r_p13 : e_Ok (3, 98, 59000, r_bxL) 36 [some (e_R 0), some (e_I 2147483648), some (e_I 2147484949)] [] r_w13 (361, 361, 32958) (.inl (some (e_I 2147483648))) r_e0 (361, 361, 32958) := e_piece (n := 4000000) r_t14T (by decide +kernel)
noncomputable def r_t13 : Nat → e_X := e_cutT 3 36 98 59000 r_bxL [some (e_R 0), some (e_I 2147483648), some (e_I 2147484949)] r_w13 (361, 361, 32958) (.inl (some (e_I 2147483648))) r_e0 (361, 361, 32958) r_tab
theorem r_t13T : e_TT r_t13 := e_cutTT r_tabT r_p13
theorem r_p12 : e_Ok (3, 98, 59000, r_bxL) 36 [some (e_R 0), some (e_I 2147483648), some (e_I 2147484849)] [] r_w12 (361, 361, 32958) (.inl (some (e_I 2147483648))) r_e0 (361, 361, 32958) := e_piece (n := 4000000) r_t13T (by decide +kernel)
noncomputable def r_t12 : Nat → e_X := e_cutT 3 36 98 59000 r_bxL [some (e_R 0), some (e_I 2147483648), some (e_I 2147484849)] r_w12 (361, 361, 32958) (.inl (some (e_I 2147483648))) r_e0 (361, 361, 32958) r_tab
theorem r_t12T : e_TT r_t12 := e_cutTT r_tabT r_p12
end RW
