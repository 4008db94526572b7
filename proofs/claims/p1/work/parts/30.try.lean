/-! try -/
noncomputable def x_f (n : Nat) : e_A → Nat → Bool := Nat.rec (motive := fun _ => e_A → Nat → Bool) (fun _ x => Nat.beq x 0) (fun _ ih l x => f_fo (Nat.add x 1) (fun y => f_s0 (some (.inl y)) l (fun l2 => Option.rec (motive := fun _ => Bool) false (fun v => ih l2 y) (f_nv l2 3)))) n
theorem x_1 : Bool.not (x_f 100000 [some (e_I 1), some (e_I 2), some (e_I 3), some (e_I 4), none] 0) = true := by decide +kernel
