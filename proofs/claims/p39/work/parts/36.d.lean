/-! PIECES, by program -/
section RW
theorem r_p2 : e_Ok (3, 98, 59000, r_bxL) 36 [some (e_R 0), some (e_I 2147483648), some (e_I 2147484369)] [] r_w2 (361, 361, 32958) (.inl (some (e_I 2147483648))) r_e0 (361, 361, 32958) := e_piece (n := 4000000) r_t3T (by decide +kernel)
noncomputable def r_t2 : Nat → e_X := e_cutT 3 36 98 59000 r_bxL [some (e_R 0), some (e_I 2147483648), some (e_I 2147484369)] r_w2 (361, 361, 32958) (.inl (some (e_I 2147483648))) r_e0 (361, 361, 32958) r_tab
theorem r_t2T : e_TT r_t2 := e_cutTT r_tabT r_p2
theorem r_p1 : e_Ok (3, 98, 59000, r_bxL) 36 [some (e_R 0), some (e_I 2147483648), some (e_I 2147484009)] [] r_w1 (361, 361, 32958) (.inl (some (e_I 2147483648))) r_e0 (361, 361, 32958) := e_piece (n := 4000000) r_t2T (by decide +kernel)
noncomputable def r_t1 : Nat → e_X := e_cutT 3 36 98 59000 r_bxL [some (e_R 0), some (e_I 2147483648), some (e_I 2147484009)] r_w1 (361, 361, 32958) (.inl (some (e_I 2147483648))) r_e0 (361, 361, 32958) r_tab
theorem r_t1T : e_TT r_t1 := e_cutTT r_tabT r_p1
theorem r_p0 : e_Ok (3, 98, 59000, r_bxL) 36 [some (e_R 0), some (e_I 2147483648), some (e_I 2147483649)] [] r_w0 (361, 361, 32958) (.inl (some (e_I 2147483648))) r_e0 (361, 361, 32958) := e_piece (n := 4000000) r_t1T (by decide +kernel)
noncomputable def r_t0 : Nat → e_X := e_cutT 3 36 98 59000 r_bxL [some (e_R 0), some (e_I 2147483648), some (e_I 2147483649)] r_w0 (361, 361, 32958) (.inl (some (e_I 2147483648))) r_e0 (361, 361, 32958) r_tab
theorem r_t0T : e_TT r_t0 := e_cutTT r_tabT r_p0
noncomputable def r_u0 : Nat → e_X := e_cutT 3 36 98 59000 r_bxL [some (e_R 0), some (e_I 2147483648), some (e_I 2147483649)] r_w0 (361, 361, 32958) (.inl (some (e_I 2147483648))) r_e0 (361, 361, 32958) r_u6
theorem r_u0T : e_TT r_u0 := e_cutTT r_u6T r_p0
end RW
