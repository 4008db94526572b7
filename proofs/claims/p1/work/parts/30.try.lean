/-! try -/
noncomputable def x_nth {α : Type} (l : List α) : Nat → Option α := List.rec (motive := fun _ => Nat → Option α) (fun _ => none) (fun a _ ih n => Nat.rec (motive := fun _ => Option α) (some a) (fun m _ => ih m) n) l
noncomputable def x_c1 (a : Option e_V) (k : Option e_V → Bool) : Bool := Option.rec (motive := fun _ => Bool) (k none) (fun v => Sum.rec (motive := fun _ => Bool) (fun m => k (some (.inl m))) (fun v => Sum.rec (motive := fun _ => Bool) (fun r => k (some (.inr (.inl r)))) (fun v => Sum.rec (motive := fun _ => Bool) (fun _ => k none) (fun v => Sum.rec (motive := fun _ => Bool) (fun q => k (some (.inr (.inr (.inr (.inl q)))))) (fun v => Sum.rec (motive := fun _ => Bool) (fun _ => k none) (fun v => k (some (.inr (.inr (.inr (.inr (.inr v))))))) v) v) v) v) v) a
noncomputable def x_lst (x : Option e_V) (l : e_A) : Nat → (e_A → Bool) → Bool := List.rec (motive := fun _ => Nat → (e_A → Bool) → Bool) (fun _ _ => false) (fun a l ih n k => Nat.rec (motive := fun _ => Bool) (k (x :: l)) (fun m _ => Nat.rec (motive := fun _ => Bool) (x_c1 a (fun a' => ih 0 (fun l' => k (a' :: l')))) (fun _ _ => ih m (fun l' => k (a :: l'))) m) n) l
noncomputable def x_load (ok : e_V → Bool) (n nx : Nat) : e_O := fun g F ls st w c K => Option.rec (motive := fun _ => Bool) false (fun o => Option.rec (motive := fun _ => Bool) false (fun v => bif ok v then g F nx ls (v :: st) w c K else false) o) (x_nth ls n)
noncomputable def x_load0 (ok : e_V → Bool) (n nx : Nat) : e_O := fun g F ls st w c K => match x_nth ls n with
  | some (some v) => bif ok v then g F nx ls (v :: st) w c K else false
  | _ => false
noncomputable def x_store (ok : e_V → Bool) (n nx : Nat) : e_O := fun g F ls st w c K => List.rec (motive := fun _ => Bool) false (fun v r _ => bif ok v then x_lst (some v) ls n (fun ls' => g F nx ls' r w c K) else false) st
noncomputable def x_rg {β : Type} (v : e_V) (d : β) (k : Nat → Nat → β) : β := Sum.rec (motive := fun _ => β) (fun m => k m m) (fun v => Sum.rec (motive := fun _ => β) (fun _ => d) (fun v => Sum.rec (motive := fun _ => β) (fun _ => d) (fun v => Sum.rec (motive := fun _ => β) (fun q => Prod.rec (motive := fun _ => β) (fun a b => k a b) q) (fun _ => d) v) v) v) v
noncomputable def x_okI (v : e_V) : Bool := x_rg v false (fun _ _ => true)
noncomputable def x_pop (nx : Nat) : e_O := fun g F ls st w c K => List.rec (motive := fun _ => Bool) false (fun v r _ => g F nx ls r w c K) st
noncomputable def x_t : Nat → e_X := e_lm 0 (e_br 1 (e_lf 0 (o_push (e_I 5) 1)) (e_lf 1 (o_pop 0)))
noncomputable def e_t0 (n : Nat) : e_T n := Nat.rec (motive := fun n => e_T n) (.inr (99, []) : e_C) (fun n t => (show e_T (n + 1) from ((t, t) : e_T n × e_T n))) n
theorem x_1 : e_run x_t 20000 (0, 100, 50000, []) 0 [some (e_I 5), some (e_I 6), some (e_I 7), some (e_I 8)] [] (e_t0 9) (0, 0, 0) (fun _ _ _ => true) = false := by decide +kernel
