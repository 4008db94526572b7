/-! A PIECE, by program -/
section RW
theorem r_p7 : e_Ok (80, 96, 58000, r_bxL) 0 [some (e_R 388), some (e_R 1207)] [] r_w7 (1281, 1281, 1815358) (.inl none) r_e6 (4821, 4821, 8972436) := e_piece (n := 4000000) r_t8T (by decide +kernel)
noncomputable def r_t7 : Nat → e_X := e_cutT 80 0 96 58000 r_bxL [some (e_R 388), some (e_R 1207)] r_w7 (1281, 1281, 1815358) (.inl none) r_e6 (4821, 4821, 8972436) r_tab
theorem r_t7T : e_TT r_t7 := e_cutTT r_tabT r_p7
end RW
