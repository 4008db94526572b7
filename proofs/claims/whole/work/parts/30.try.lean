/-! the constructors, evaluated -/
noncomputable def e_t0 (n : Nat) : e_T n := Nat.rec (motive := fun n => e_T n) (.inr (99, []) : e_C) (fun n t => (show e_T (n + 1) from ((t, t) : e_T n × e_T n))) n
theorem e_ctor1 : (e_push (.inl (0, ef_0)) 17 (e_t0 9) (0, 0, 0) fun w c => e_run e_tab 40000 (0, 100, 50000, []) 0 [some (e_R 0)] [] w c (fun z w c => e_push (.inl (12, ef_12)) 5 w c fun w c1 => e_run e_tab 40000 (123, 100, 50000, []) 0 [some (e_R c.1)] [] w c1 (fun z w c => Nat.beq c.1 349 && Nat.beq c.2.1 349 && Nat.beq c.2.2 32927))) = true := by decide +kernel
