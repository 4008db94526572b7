/-! PIECES, by program -/
section RW
theorem r_p43 : e_Ok (80, 96, 58000, r_bxL) 0 [some (e_R 388), some (e_R 4423)] [] r_w43 (4595, 4595, 8509249) (.inl none) r_e22 (4821, 4821, 8972436) := e_piece (n := 4000000) r_tabT (by decide +kernel)
noncomputable def r_t43 : Nat → e_X := e_cutT 80 0 96 58000 r_bxL [some (e_R 388), some (e_R 4423)] r_w43 (4595, 4595, 8509249) (.inl none) r_e22 (4821, 4821, 8972436) r_tab
theorem r_t43T : e_TT r_t43 := e_cutTT r_tabT r_p43
theorem r_p42 : e_Ok (80, 96, 58000, r_bxL) 0 [some (e_R 388), some (e_R 4021)] [] r_w42 (4395, 4395, 8111618) (.inl none) r_e22 (4821, 4821, 8972436) := e_piece (n := 4000000) r_t43T (by decide +kernel)
noncomputable def r_t42 : Nat → e_X := e_cutT 80 0 96 58000 r_bxL [some (e_R 388), some (e_R 4021)] r_w42 (4395, 4395, 8111618) (.inl none) r_e22 (4821, 4821, 8972436) r_tab
theorem r_t42T : e_TT r_t42 := e_cutTT r_tabT r_p42
theorem r_p41 : e_Ok (80, 96, 58000, r_bxL) 0 [some (e_R 388), some (e_R 4021)] [] r_w41 (4195, 4195, 7701718) (.inl none) r_e22 (4821, 4821, 8972436) := e_piece (n := 4000000) r_t42T (by decide +kernel)
noncomputable def r_t41 : Nat → e_X := e_cutT 80 0 96 58000 r_bxL [some (e_R 388), some (e_R 4021)] r_w41 (4195, 4195, 7701718) (.inl none) r_e22 (4821, 4821, 8972436) r_tab
theorem r_t41T : e_TT r_t41 := e_cutTT r_tabT r_p41
theorem r_p40 : e_Ok (80, 96, 58000, r_bxL) 0 [some (e_R 388), some (e_R 3619)] [] r_w40 (3995, 3995, 7304087) (.inl none) r_e22 (4821, 4821, 8972436) := e_piece (n := 4000000) r_t41T (by decide +kernel)
noncomputable def r_t40 : Nat → e_X := e_cutT 80 0 96 58000 r_bxL [some (e_R 388), some (e_R 3619)] r_w40 (3995, 3995, 7304087) (.inl none) r_e22 (4821, 4821, 8972436) r_tab
theorem r_t40T : e_TT r_t40 := e_cutTT r_tabT r_p40
theorem r_p39 : e_Ok (80, 96, 58000, r_bxL) 0 [some (e_R 388), some (e_R 3619)] [] r_w39 (3795, 3795, 6894187) (.inl none) r_e22 (4821, 4821, 8972436) := e_piece (n := 4000000) r_t40T (by decide +kernel)
noncomputable def r_t39 : Nat → e_X := e_cutT 80 0 96 58000 r_bxL [some (e_R 388), some (e_R 3619)] r_w39 (3795, 3795, 6894187) (.inl none) r_e22 (4821, 4821, 8972436) r_tab
theorem r_t39T : e_TT r_t39 := e_cutTT r_tabT r_p39
theorem r_p38 : e_Ok (80, 96, 58000, r_bxL) 0 [some (e_R 388), some (e_R 3217)] [] r_w38 (3595, 3595, 6496556) (.inl none) r_e22 (4821, 4821, 8972436) := e_piece (n := 4000000) r_t39T (by decide +kernel)
noncomputable def r_t38 : Nat → e_X := e_cutT 80 0 96 58000 r_bxL [some (e_R 388), some (e_R 3217)] r_w38 (3595, 3595, 6496556) (.inl none) r_e22 (4821, 4821, 8972436) r_tab
theorem r_t38T : e_TT r_t38 := e_cutTT r_tabT r_p38
theorem r_p37 : e_Ok (80, 96, 58000, r_bxL) 0 [some (e_R 388), some (e_R 3217)] [] r_w37 (3395, 3395, 6086656) (.inl none) r_e22 (4821, 4821, 8972436) := e_piece (n := 4000000) r_t38T (by decide +kernel)
noncomputable def r_t37 : Nat → e_X := e_cutT 80 0 96 58000 r_bxL [some (e_R 388), some (e_R 3217)] r_w37 (3395, 3395, 6086656) (.inl none) r_e22 (4821, 4821, 8972436) r_tab
theorem r_t37T : e_TT r_t37 := e_cutTT r_tabT r_p37
theorem r_p36 : e_Ok (80, 96, 58000, r_bxL) 0 [some (e_R 388), some (e_R 2815)] [] r_w36 (3195, 3195, 5689025) (.inl none) r_e22 (4821, 4821, 8972436) := e_piece (n := 4000000) r_t37T (by decide +kernel)
noncomputable def r_t36 : Nat → e_X := e_cutT 80 0 96 58000 r_bxL [some (e_R 388), some (e_R 2815)] r_w36 (3195, 3195, 5689025) (.inl none) r_e22 (4821, 4821, 8972436) r_tab
theorem r_t36T : e_TT r_t36 := e_cutTT r_tabT r_p36
end RW
