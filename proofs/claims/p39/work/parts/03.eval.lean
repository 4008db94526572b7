/-! THE EVALUATOR: a frame of a method over a picture of the heap; ints and longs by codes (the value and 2^31, 2^63: in order), or by ranges of codes; references by places of the picture. In continuations, so that all that is kept is in normal form. -/
abbrev e_V : Type := Nat ⊕ (Option Nat ⊕ (Nat ⊕ ((Nat × Nat) ⊕ ((Nat × Nat) ⊕ (Nat ⊕ Unit)))))
abbrev e_I (n : Nat) : e_V := .inl n
abbrev e_R (n : Nat) : e_V := .inr (.inl (some n))
abbrev e_N : e_V := .inr (.inl none)
abbrev e_L (n : Nat) : e_V := .inr (.inr (.inl n))
abbrev e_U (l h : Nat) : e_V := .inr (.inr (.inr (.inl (l, h))))
abbrev e_UL (l h : Nat) : e_V := .inr (.inr (.inr (.inr (.inl (l, h)))))
/-- an object that isn't ours, by its number; some reference -/
abbrev e_B (n : Nat) : e_V := .inr (.inr (.inr (.inr (.inr (.inl n)))))
abbrev e_Tp : e_V := .inr (.inr (.inr (.inr (.inr (.inr ())))))
abbrev e_C : Type := (Nat × List e_V) ⊕ (Nat × List (Nat × e_V))
noncomputable def e_T (n : Nat) : Type := Nat.rec e_C (fun _ T => T × T) n
noncomputable def e_tget (n : Nat) : e_T n → Nat → e_C := Nat.rec (motive := fun n => e_T n → Nat → e_C) (fun t _ => t) (fun n ih t i =>
  Prod.rec (motive := fun _ => e_C) (fun a b => bif Nat.blt i (2 ^ n) then ih a i else ih b (i - 2 ^ n)) (show e_T n × e_T n from t)) n
noncomputable def e_tput (x : e_C) (n : Nat) : e_T n → Nat → (e_T n → Bool) → Bool := Nat.rec (motive := fun n => e_T n → Nat → (e_T n → Bool) → Bool) (fun _ _ k => k x) (fun n ih t i k =>
  Prod.rec (motive := fun _ => Bool) (fun a b => bif Nat.blt i (2 ^ n) then ih a i (fun a' => k (show e_T (n + 1) from ((a', b) : e_T n × e_T n))) else ih b (i - 2 ^ n) (fun b' => k (show e_T (n + 1) from ((a, b') : e_T n × e_T n)))) (show e_T n × e_T n from t)) n
abbrev e_W : Type := e_T 13
abbrev e_A : Type := List (Option e_V)
/-- how many cells the picture has, how many cells and slots were made -/
abbrev e_Q : Type := Nat × Nat × Nat
/-- the method, its room for frames and for words, what the script holds -/
abbrev e_F : Type := Nat × Nat × Nat × List (Nat × e_V)
/-- what a frame ends with: an answer (or none), or the number of a thrown class -/
abbrev e_Z : Type := Option e_V ⊕ Nat
abbrev e_K : Type := e_Z → e_W → e_Q → Bool
abbrev e_G : Type := e_F → Nat → e_A → List e_V → e_W → e_Q → e_K → Bool
abbrev e_O : Type := e_G → e_F → e_A → List e_V → e_W → e_Q → e_K → Bool
noncomputable def e_fo (n : Nat) (k : Nat → Bool) : Bool := match n with
  | 0 => k 0
  | m + 1 => k (Nat.succ m)
noncomputable def e_nth {α : Type} : List α → Nat → Option α
  | [], _ => none
  | a :: _, 0 => some a
  | _ :: l, n + 1 => e_nth l n
noncomputable def e_rep {α : Type} (x : α) : List α → Nat → (List α → Bool) → Bool
  | [], _, _ => false
  | _ :: l, 0, k => k (x :: l)
  | a :: l, n + 1, k => e_rep x l n (fun l' => k (a :: l'))
/-- a local of one word: it is no half of a long -/
noncomputable def e_c1 (a : Option e_V) : Option e_V := match a with
  | some (.inl m) => some (.inl m)
  | some (.inr (.inl r)) => some (.inr (.inl r))
  | some (.inr (.inr (.inr (.inl q)))) => some (.inr (.inr (.inr (.inl q))))
  | some (.inr (.inr (.inr (.inr (.inr q))))) => some (.inr (.inr (.inr (.inr (.inr q)))))
  | _ => none
noncomputable def e_lst (x : Option e_V) : e_A → Nat → (e_A → Bool) → Bool
  | [], _, _ => false
  | _ :: l, 0, k => k (x :: l)
  | a :: l, n + 1, k => match n with
    | 0 => e_lst x l 0 (fun l' => k (e_c1 a :: l'))
    | m + 1 => e_lst x l (m + 1) (fun l' => k (a :: l'))
/-- arrays: runs of one value -/
noncomputable def e_rget : List (Nat × e_V) → Nat → Nat → Option e_V
  | [], _, _ => none
  | (n, v) :: l, i, j => bif Nat.blt i n then (bif Nat.blt j n then some v else none) else e_rget l (i - n) (j - n)
noncomputable def e_same (a b : e_V) : Bool := match a, b with
  | .inl m, .inl n => Nat.beq m n
  | .inr (.inl (some m)), .inr (.inl (some n)) => Nat.beq m n
  | .inr (.inl none), .inr (.inl none) => true
  | .inr (.inr (.inl m)), .inr (.inr (.inl n)) => Nat.beq m n
  | _, _ => false
noncomputable def e_cons (n : Nat) (v : e_V) (l : List (Nat × e_V)) (k : List (Nat × e_V) → Bool) : Bool := match n with
  | 0 => k l
  | z + 1 => match l with
    | [] => k [(Nat.succ z, v)]
    | (m, u) :: t => bif e_same v u then e_fo (z + 1 + m) (fun q => k ((q, u) :: t)) else k ((Nat.succ z, v) :: l)
noncomputable def e_rset (x : e_V) : List (Nat × e_V) → Nat → (List (Nat × e_V) → Bool) → Bool
  | [], _, _ => false
  | (n, v) :: l, i, k => bif Nat.blt i n then e_cons (n - i - 1) v l (fun l1 => e_cons 1 x l1 (fun l2 => e_cons i v l2 k)) else e_rset x l (i - n) (fun l1 => e_cons n v l1 k)
noncomputable def e_rlen : List (Nat × e_V) → Nat
  | [] => 0
  | (n, _) :: l => n + e_rlen l
/-- an int's range of codes -/
noncomputable def e_rg (v : e_V) : Option (Nat × Nat) := match v with
  | .inl m => some (m, m)
  | .inr (.inr (.inr (.inl q))) => some q
  | _ => none
noncomputable def e_rgL (v : e_V) : Option (Nat × Nat) := match v with
  | .inr (.inr (.inl m)) => some (m, m)
  | .inr (.inr (.inr (.inr (.inl q)))) => some q
  | _ => none
noncomputable def e_mk (l h : Nat) (k : e_V → Bool) : Bool := e_fo l fun a => e_fo h fun b => bif Nat.beq a b then k (.inl a) else k (.inr (.inr (.inr (.inl (a, b)))))
noncomputable def e_okI (v : e_V) : Bool := match e_rg v with
  | some _ => true
  | none => false
noncomputable def e_okL (v : e_V) : Bool := match e_rgL v with
  | some _ => true
  | none => false
noncomputable def e_okR (v : e_V) : Bool := match v with
  | .inr (.inl _) => true
  | .inr (.inr (.inr (.inr (.inr _)))) => true
  | _ => false
/-- 0 or 1 -/
noncomputable def e_okZ (v : e_V) : Bool := match e_rg v with
  | some (l, h) => Nat.ble 2147483648 l && Nat.ble h 2147483649
  | none => false
-- constants and moves
noncomputable def o_push (v : e_V) (nx : Nat) : e_O := fun g F ls st w c K => g F nx ls (v :: st) w c K
noncomputable def o_load (ok : e_V → Bool) (n nx : Nat) : e_O := fun g F ls st w c K => match e_nth ls n with
  | some (some v) => bif ok v then g F nx ls (v :: st) w c K else false
  | _ => false
noncomputable def o_store (ok : e_V → Bool) (n nx : Nat) : e_O := fun g F ls st w c K => match st with
  | v :: r => bif ok v then e_lst (some v) ls n (fun ls' => g F nx ls' r w c K) else false
  | [] => false
noncomputable def o_storeL (n nx : Nat) : e_O := fun g F ls st w c K => match st with
  | v :: r => bif e_okL v then e_lst none ls (n + 1) (fun l1 => e_lst (some v) l1 n (fun ls' => g F nx ls' r w c K)) else false
  | [] => false
noncomputable def o_iinc (n d nx : Nat) : e_O := fun g F ls st w c K => match e_nth ls n with
  | some (some (.inl m)) => e_fo ((m + d) % 4294967296) (fun z => e_lst (some (.inl z)) ls n (fun ls' => g F nx ls' st w c K))
  | _ => false
noncomputable def e_is1 (v : e_V) : Bool := match e_c1 (some v) with
  | some _ => true
  | none => false
noncomputable def o_pop (nx : Nat) : e_O := fun g F ls st w c K => match st with
  | v :: r => bif e_is1 v then g F nx ls r w c K else false
  | _ => false
noncomputable def o_dup (nx : Nat) : e_O := fun g F ls st w c K => match st with
  | v :: r => bif e_is1 v then g F nx ls (v :: v :: r) w c K else false
  | _ => false
noncomputable def o_dup_x1 (nx : Nat) : e_O := fun g F ls st w c K => match st with
  | v :: u :: r => bif e_is1 v && e_is1 u then g F nx ls (v :: u :: v :: r) w c K else false
  | _ => false
noncomputable def o_dup2 (nx : Nat) : e_O := fun g F ls st w c K => match st with
  | v :: u :: r => bif e_is1 v && e_is1 u then g F nx ls (v :: u :: v :: u :: r) w c K else false
  | _ => false
-- arithmetic
noncomputable def o_iadd (nx : Nat) : e_O := fun g F ls st w c K => match st with
  | .inl n :: .inl m :: r => e_fo ((m + n + 2147483648) % 4294967296) (fun z => g F nx ls (.inl z :: r) w c K)
  | b :: a :: r => match e_rg a, e_rg b with
    | some (l1, h1), some (l2, h2) => bif Nat.ble 2147483648 (l1 + l2) && Nat.blt (h1 + h2) 6442450944 then e_mk (l1 + l2 - 2147483648) (h1 + h2 - 2147483648) (fun v => g F nx ls (v :: r) w c K) else false
    | _, _ => false
  | _ => false
noncomputable def o_isub (nx : Nat) : e_O := fun g F ls st w c K => match st with
  | .inl n :: .inl m :: r => e_fo ((m + 6442450944 - n) % 4294967296) (fun z => g F nx ls (.inl z :: r) w c K)
  | .inl n :: a :: r => match e_rg a with
    | some (l, h) => bif Nat.ble n (l + 2147483648) && Nat.blt (h + 2147483648 - n) 4294967296 then e_mk (l + 2147483648 - n) (h + 2147483648 - n) (fun v => g F nx ls (v :: r) w c K) else false
    | none => false
  | _ => false
noncomputable def e_u (m : Nat) : Nat := (m + 2147483648) % 4294967296
noncomputable def o_bin (op : Nat → Nat → Nat) (nx : Nat) : e_O := fun g F ls st w c K => match st with
  | .inl n :: .inl m :: r => e_fo (e_u (op (e_u m) (e_u n) % 4294967296)) (fun z => g F nx ls (.inl z :: r) w c K)
  | _ => false
noncomputable def e_mulR (l h n : Nat) (k : e_V → Bool) : Bool := bif Nat.ble 2147483648 n && Nat.ble (2147483648 * (n - 2147483648)) (l * (n - 2147483648) + 2147483648) && Nat.blt (h * (n - 2147483648) + 2147483648 - 2147483648 * (n - 2147483648)) 4294967296
  then e_mk (l * (n - 2147483648) + 2147483648 - 2147483648 * (n - 2147483648)) (h * (n - 2147483648) + 2147483648 - 2147483648 * (n - 2147483648)) k else false
noncomputable def o_imul (nx : Nat) : e_O := fun g F ls st w c K => match st with
  | .inl n :: .inl m :: r => e_fo (e_u (e_u m * e_u n % 4294967296)) (fun z => g F nx ls (.inl z :: r) w c K)
  | .inl n :: a :: r => match e_rg a with
    | some (l, h) => e_mulR l h n (fun v => g F nx ls (v :: r) w c K)
    | none => false
  | b :: .inl m :: r => match e_rg b with
    | some (l, h) => e_mulR l h m (fun v => g F nx ls (v :: r) w c K)
    | none => false
  | _ => false
/-- division of numbers that aren't negative by such that are above 0 -/
noncomputable def o_idiv (nx : Nat) : e_O := fun g F ls st w c K => match st with
  | .inl n :: .inl m :: r => bif Nat.ble 2147483648 m && Nat.blt 2147483648 n then e_fo ((m - 2147483648) / (n - 2147483648) + 2147483648) (fun z => g F nx ls (.inl z :: r) w c K) else false
  | _ => false
noncomputable def o_irem (nx : Nat) : e_O := fun g F ls st w c K => match st with
  | .inl n :: .inl m :: r => bif Nat.ble 2147483648 m && Nat.blt 2147483648 n then e_fo ((m - 2147483648) % (n - 2147483648) + 2147483648) (fun z => g F nx ls (.inl z :: r) w c K) else false
  | _ => false
noncomputable def o_iushr (nx : Nat) : e_O := fun g F ls st w c K => match st with
  | .inl n :: .inl m :: r => e_fo (e_u (e_u m / 2 ^ (e_u n % 32))) (fun z => g F nx ls (.inl z :: r) w c K)
  | b :: .inl m :: r => match e_rg b with
    | some _ => bif Nat.beq m 2147483648 then g F nx ls (.inl 2147483648 :: r) w c K else false
    | none => false
  | _ => false
/-- >> of a number that isn't negative -/
noncomputable def o_ishr (nx : Nat) : e_O := fun g F ls st w c K => match st with
  | .inl n :: .inl m :: r => bif Nat.ble 2147483648 m then e_fo ((m - 2147483648) / 2 ^ (e_u n % 32) + 2147483648) (fun z => g F nx ls (.inl z :: r) w c K) else false
  | _ => false
noncomputable def o_ishl (nx : Nat) : e_O := fun g F ls st w c K => match st with
  | .inl n :: .inl m :: r => e_fo (e_u (e_u m * 2 ^ (e_u n % 32) % 4294967296)) (fun z => g F nx ls (.inl z :: r) w c K)
  | _ => false
noncomputable def o_ineg (nx : Nat) : e_O := fun g F ls st w c K => match st with
  | .inl m :: r => e_fo ((4294967296 - m) % 4294967296) (fun z => g F nx ls (.inl z :: r) w c K)
  | _ => false
noncomputable def o_i2l (nx : Nat) : e_O := fun g F ls st w c K => match st with
  | .inl m :: r => e_fo (m + 9223372034707292160) (fun z => g F nx ls (.inr (.inr (.inl z)) :: r) w c K)
  | .inr (.inr (.inr (.inl (l, h)))) :: r => e_fo (l + 9223372034707292160) (fun a => e_fo (h + 9223372034707292160) (fun b => g F nx ls (.inr (.inr (.inr (.inr (.inl (a, b))))) :: r) w c K))
  | _ => false
noncomputable def e_uL (m : Nat) : Nat := (m + 9223372036854775808) % 18446744073709551616
noncomputable def o_l2i (nx : Nat) : e_O := fun g F ls st w c K => match st with
  | .inr (.inr (.inl m)) :: r => e_fo (e_u (e_uL m % 4294967296)) (fun z => g F nx ls (.inl z :: r) w c K)
  | _ => false
noncomputable def o_ladd (nx : Nat) : e_O := fun g F ls st w c K => match st with
  | .inr (.inr (.inl n)) :: .inr (.inr (.inl m)) :: r => e_fo ((m + n + 9223372036854775808) % 18446744073709551616) (fun z => g F nx ls (.inr (.inr (.inl z)) :: r) w c K)
  | _ => false
noncomputable def o_lsub (nx : Nat) : e_O := fun g F ls st w c K => match st with
  | .inr (.inr (.inl n)) :: .inr (.inr (.inl m)) :: r => e_fo ((m + 27670116110564327424 - n) % 18446744073709551616) (fun z => g F nx ls (.inr (.inr (.inl z)) :: r) w c K)
  | _ => false
noncomputable def o_lmul (nx : Nat) : e_O := fun g F ls st w c K => match st with
  | .inr (.inr (.inl n)) :: .inr (.inr (.inl m)) :: r => e_fo (e_uL (e_uL m * e_uL n % 18446744073709551616)) (fun z => g F nx ls (.inr (.inr (.inl z)) :: r) w c K)
  | _ => false
noncomputable def o_ldiv (nx : Nat) : e_O := fun g F ls st w c K => match st with
  | .inr (.inr (.inl n)) :: .inr (.inr (.inl m)) :: r => bif Nat.ble 9223372036854775808 m && Nat.blt 9223372036854775808 n then e_fo ((m - 9223372036854775808) / (n - 9223372036854775808) + 9223372036854775808) (fun z => g F nx ls (.inr (.inr (.inl z)) :: r) w c K) else false
  | _ => false
noncomputable def o_lcmp (nx : Nat) : e_O := fun g F ls st w c K => match st with
  | b :: a :: r => match e_rgL a, e_rgL b with
    | some (l1, h1), some (l2, h2) =>
      bif Nat.blt h1 l2 then g F nx ls (.inl 2147483647 :: r) w c K
      else bif Nat.blt h2 l1 then g F nx ls (.inl 2147483649 :: r) w c K
      else bif Nat.ble h2 l1 then (bif Nat.ble h1 l2 then g F nx ls (.inl 2147483648 :: r) w c K else g F nx ls (.inr (.inr (.inr (.inl (2147483648, 2147483649)))) :: r) w c K)
      else bif Nat.ble h1 l2 then g F nx ls (.inr (.inr (.inr (.inl (2147483647, 2147483648)))) :: r) w c K
      else false
    | _, _ => false
  | _ => false
-- jumps
noncomputable def o_goto (nx : Nat) : e_O := fun g F ls st w c K => g F nx ls st w c K
/-- 0 lt, 1 ge (tg and nx the other way round), by ranges -/
noncomputable def e_lt (a b : Option (Nat × Nat)) (t f : Bool) : Bool := match a, b with
  | some (l1, h1), some (l2, h2) => bif Nat.blt h1 l2 then t else bif Nat.ble h2 l1 then f else false
  | _, _ => false
noncomputable def e_eq (a b : Option (Nat × Nat)) (t f : Bool) : Bool := match a, b with
  | some (l1, h1), some (l2, h2) => bif Nat.blt h1 l2 || Nat.blt h2 l1 then f else bif Nat.beq l1 h1 && Nat.beq l2 h2 then t else false
  | _, _ => false
noncomputable def e_z : Option (Nat × Nat) := some (2147483648, 2147483648)
noncomputable def o_iflt (tg nx : Nat) : e_O := fun g F ls st w c K => match st with
  | a :: r => e_lt (e_rg a) e_z (g F tg ls r w c K) (g F nx ls r w c K)
  | _ => false
noncomputable def o_ifgt (tg nx : Nat) : e_O := fun g F ls st w c K => match st with
  | a :: r => e_lt e_z (e_rg a) (g F tg ls r w c K) (g F nx ls r w c K)
  | _ => false
noncomputable def o_ifeq (tg nx : Nat) : e_O := fun g F ls st w c K => match st with
  | a :: r => e_eq (e_rg a) e_z (g F tg ls r w c K) (g F nx ls r w c K)
  | _ => false
noncomputable def o_clt (tg nx : Nat) : e_O := fun g F ls st w c K => match st with
  | b :: a :: r => e_lt (e_rg a) (e_rg b) (g F tg ls r w c K) (g F nx ls r w c K)
  | _ => false
noncomputable def o_cgt (tg nx : Nat) : e_O := fun g F ls st w c K => match st with
  | b :: a :: r => e_lt (e_rg b) (e_rg a) (g F tg ls r w c K) (g F nx ls r w c K)
  | _ => false
noncomputable def o_ceq (tg nx : Nat) : e_O := fun g F ls st w c K => match st with
  | b :: a :: r => e_eq (e_rg a) (e_rg b) (g F tg ls r w c K) (g F nx ls r w c K)
  | _ => false
noncomputable def o_acmp (tg nx : Nat) : e_O := fun g F ls st w c K => match st with
  | .inr (.inr (.inr (.inr (.inr (.inl b))))) :: .inr (.inr (.inr (.inr (.inr (.inl a))))) :: r => bif Nat.beq a b then g F tg ls r w c K else false
  | _ => false
noncomputable def o_null (tg nx : Nat) : e_O := fun g F ls st w c K => match st with
  | .inr (.inl (some _)) :: r => g F nx ls r w c K
  | .inr (.inl none) :: r => g F tg ls r w c K
  | _ => false
/-- all of the places i to i + n of the targets are the same -/
noncomputable def e_tgt (ts : List Nat) (i n : Nat) : Option Nat := match n with
  | 0 => e_nth ts i
  | m + 1 => match e_nth ts (i + m + 1), e_tgt ts i m with
    | some a, some b => bif Nat.beq a b then some b else none
    | _, _ => none
noncomputable def o_switch (lo : Nat) (ts : List Nat) (d : Nat) : e_O := fun g F ls st w c K => match st with
  | a :: r => match e_rg a with
    | some (l, h) => bif Nat.blt h lo then g F d ls r w c K
      else bif Nat.ble (lo + ts.length) l then g F d ls r w c K
      else bif Nat.ble lo l && Nat.blt h (lo + ts.length) then (match e_tgt ts (l - lo) (h - l) with
        | some t => g F t ls r w c K
        | none => false)
      else false
    | none => false
  | _ => false
-- the heap
noncomputable def e_f1 (c k : Nat) : Nat → Option Nat := fun ci => bif Nat.beq ci c then some k else none
noncomputable def o_getf (fi : Nat → Option Nat) (nx : Nat) : e_O := fun g F ls st w c K => match st with
  | .inr (.inl (some q)) :: r => match e_tget 13 w q with
    | .inl (ci, fs) => match fi ci with
      | some i => match e_nth fs i with
        | some v => g F nx ls (v :: r) w c K
        | none => false
      | none => false
    | _ => false
  | _ => false
noncomputable def o_putf (fi : Nat → Option Nat) (ok : e_V → Bool) (nx : Nat) : e_O := fun g F ls st w c K => match st with
  | v :: .inr (.inl (some q)) :: r => bif ok v && Nat.blt q 8192 then (match e_tget 13 w q with
    | .inl (ci, fs) => match fi ci with
      | some i => e_rep v fs i (fun fs' => e_tput (.inl (ci, fs')) 13 w q (fun w' => g F nx ls r w' c K))
      | none => false
    | _ => false) else false
  | _ => false
/-- what an array holds that isn't ours: the script (0) and constant ones -/
noncomputable def e_fc (fc : List (List (Nat × e_V))) (F : e_F) (k : Nat) : List (Nat × e_V) := match k with
  | 0 => F.2.2.2
  | z + 1 => match e_nth fc z with
    | some l => l
    | none => []
noncomputable def o_alen (fc : List (List (Nat × e_V))) (nx : Nat) : e_O := fun g F ls st w c K => match st with
  | .inr (.inr (.inr (.inr (.inr (.inl k))))) :: r => e_fo (e_rlen (e_fc fc F k) + 2147483648) (fun z => bif Nat.ble k fc.length && Nat.blt z 4294967296 then g F nx ls (.inl z :: r) w c K else false)
  | .inr (.inl (some q)) :: r => match e_tget 13 w q with
    | .inr (_, rs) => e_fo (e_rlen rs + 2147483648) (fun z => g F nx ls (.inl z :: r) w c K)
    | _ => false
  | _ => false
/-- tc: the kind of array -/
noncomputable def o_aldO (tc nx : Nat) : e_O := fun g F ls st w c K => match st with
  | i :: .inr (.inl (some q)) :: r => match e_rg i, e_tget 13 w q with
    | some (l, h), .inr (t, rs) => bif Nat.beq t tc && Nat.ble 2147483648 l && Nat.ble l h then (match e_rget rs (l - 2147483648) (h - 2147483648) with
      | some v => g F nx ls (v :: r) w c K
      | none => false) else false
    | _, _ => false
  | _ => false
/-- ints, of arrays that aren't ours too -/
noncomputable def o_ald (fc : List (List (Nat × e_V))) (nx : Nat) : e_O := fun g F ls st w c K => match st with
  | i :: .inr (.inr (.inr (.inr (.inr (.inl k))))) :: r => match e_rg i with
    | some (l, h) => bif Nat.ble k fc.length && Nat.ble 2147483648 l && Nat.ble l h then (match e_rget (e_fc fc F k) (l - 2147483648) (h - 2147483648) with
      | some v => bif e_okI v && Nat.blt k 3 then g F nx ls (v :: r) w c K else false
      | none => false) else false
    | none => false
  | st => o_aldO 0 nx g F ls st w c K
noncomputable def o_ast (tc : Nat) (ok : e_V → Bool) (nx : Nat) : e_O := fun g F ls st w c K => match st with
  | v :: .inl i :: .inr (.inl (some q)) :: r => bif ok v && Nat.blt q 8192 && Nat.ble 2147483648 i then (match e_tget 13 w q with
    | .inr (t, rs) => bif Nat.beq t tc then e_rset v rs (i - 2147483648) (fun rs' => e_tput (.inr (t, rs')) 13 w q (fun w' => g F nx ls r w' c K)) else false
    | _ => false) else false
  | _ => false
/-- the kind of a cell: its class, or 100 and what array it is -/
noncomputable def e_cod (x : e_C) : Nat := match x with
  | .inl (ci, _) => ci
  | .inr (t, _) => 100 + t
noncomputable def e_okS (okc : Nat → Bool) (w : e_W) (v : e_V) : Bool := match v with
  | .inr (.inl none) => true
  | .inr (.inl (some j)) => okc (e_cod (e_tget 13 w j))
  | _ => false
/-- a store into an array of references -/
noncomputable def o_astR (tc : Nat) (okc : Nat → Bool) (nx : Nat) : e_O := fun g F ls st w c K => match st with
  | v :: .inl i :: .inr (.inl (some q)) :: r => bif e_okS okc w v && Nat.blt q 8192 && Nat.ble 2147483648 i then (match e_tget 13 w q with
    | .inr (t, rs) => bif Nat.beq t tc then e_rset v rs (i - 2147483648) (fun rs' => e_tput (.inr (t, rs')) 13 w q (fun w' => g F nx ls r w' c K)) else false
    | _ => false) else false
  | _ => false
/-- the next cell of the picture -/
noncomputable def e_push (x : e_C) (n : Nat) (w : e_W) (c : e_Q) (k : e_W → e_Q → Bool) : Bool := match c with
  | (q, cc, ss) => bif Nat.blt q 8192 then e_tput x 13 w q (fun w' => e_fo (q + 1) fun q' => e_fo (cc + 1) fun c' => e_fo (ss + n) fun s' => k w' (q', c', s')) else false
noncomputable def o_new (ci n : Nat) (fs : List e_V) (nx : Nat) : e_O := fun g F ls st w c K => e_push (.inl (ci, fs)) n w c (fun w' c' => g F nx ls (.inr (.inl (some c.1)) :: st) w' c' K)
noncomputable def o_newa (tc : Nat) (v : e_V) (nx : Nat) : e_O := fun g F ls st w c K => match st with
  | .inl m :: r => bif Nat.ble 2147483648 m && Nat.ble m 2214592512 then (match m - 2147483648 with
    | 0 => e_push (.inr (tc, [])) 0 w c (fun w' c' => g F nx ls (.inr (.inl (some c.1)) :: r) w' c' K)
    | z + 1 => e_push (.inr (tc, [(Nat.succ z, v)])) (Nat.succ z) w c (fun w' c' => g F nx ls (.inr (.inl (some c.1)) :: r) w' c' K)) else false
  | _ => false
-- ends
noncomputable def o_ret (ok : e_V → Bool) : e_O := fun _ _ _ st w c K => match st with
  | [v] => bif ok v then K (.inl (some v)) w c else false
  | _ => false
noncomputable def o_retv : e_O := fun _ _ _ st w c K => match st with
  | [] => K (.inl none) w c
  | _ => false
-- calls
/-- the first n of a stack, turned round, as locals; a long takes two -/
noncomputable def e_args : Nat → List e_V → List e_V → (List e_V → List e_V → Bool) → Bool
  | 0, as, st, k => k as st
  | n + 1, as, st, k => match st with
    | v :: r => e_args n (v :: as) r k
    | [] => false
noncomputable def e_loc : List e_V → Nat → (e_A → Bool) → Bool
  | [], m, k => k (List.replicate m none)
  | v :: l, m, k => match m with
    | 0 => false
    | z + 1 => bif e_is1 v then e_loc l z (fun a => k (some v :: a)) else match z with
      | 0 => false
      | y + 1 => e_loc l y (fun a => k (some v :: none :: a))
noncomputable def e_stw : List e_V → Nat
  | [] => 0
  | v :: r => (bif e_is1 v then 1 else 2) + e_stw r
noncomputable def e_go (y m : Nat) (as : List e_V) (nx : Nat) (r : List e_V) (g : e_G) (F : e_F) (ls : e_A) (w : e_W) (c : e_Q) (K : e_K) (X : Nat → e_W → e_Q → Bool) : Bool := match F with
  | (_, fr, lo, bx) => bif Nat.blt 0 fr && Nat.ble (m + 19) lo && Nat.ble (e_stw r) 8 then e_fo (fr - 1) (fun fr' => e_fo (lo - (m + 19)) (fun lo' => e_loc as m (fun la =>
    g (y, fr', lo', bx) 0 la [] w c (fun z w' c' => match z with
      | .inl (some v) => g F nx ls (v :: r) w' c' K
      | .inl none => g F nx ls r w' c' K
      | .inr E => X E w' c')))) else false
/-- a static call of the method y (m locals, n arguments) -/
noncomputable def o_callS (y m n nx : Nat) : e_O := fun g F ls st w c K => e_args n [] st (fun as r => e_go y m as nx r g F ls w c K (fun _ _ _ => false))
/-- a call of the method y on a receiver, by invokespecial or of a nest mate's private method -/
noncomputable def o_callI (y m n nx : Nat) : e_O := fun g F ls st w c K => e_args n [] st (fun as r => match as with
  | .inr (.inl (some _)) :: _ => e_go y m as nx r g F ls w c K (fun _ _ _ => false)
  | _ => false)
/-- a call by the receiver's class; X: what is done where it throws -/
noncomputable def o_callX (X : e_G → e_F → e_A → e_K → Nat → e_W → e_Q → Bool) (sel : Nat → Option (Nat × Nat)) (n nx : Nat) : e_O := fun g F ls st w c K => e_args n [] st (fun as r => match as with
  | .inr (.inl (some q)) :: _ => match e_tget 13 w q with
    | .inl (ci, _) => match sel ci with
      | some (y, m) => e_go y m as nx r g F ls w c K (X g F ls K)
      | none => false
    | _ => false
  | _ => false)
noncomputable def e_s1 (c y m : Nat) : Nat → Option (Nat × Nat) := fun ci => bif Nat.beq ci c then some (y, m) else none
noncomputable def o_callV (sel : Nat → Option (Nat × Nat)) (n nx : Nat) : e_O := o_callX (fun _ _ _ _ _ _ _ => false) sel n nx
/-- a method's table: a tree by the place; the tables: a tree by the method -/
abbrev e_X : Type := Nat → Option e_O
noncomputable def e_lf (q : Nat) (o : e_O) : e_X := fun p => bif Nat.beq p q then some o else none
noncomputable def e_br (k : Nat) (a b : e_X) : e_X := fun p => bif Nat.ble k p then b p else a p
noncomputable def e_no : e_X := fun _ => none
noncomputable def e_lm (q : Nat) (f : e_X) : Nat → e_X := fun M => bif Nat.beq M q then f else e_no
noncomputable def e_bm (k : Nat) (a b : Nat → e_X) : Nat → e_X := fun M => bif Nat.ble k M then b M else a M
noncomputable def e_run (tab : Nat → e_X) (fuel : Nat) : e_G := Nat.rec (motive := fun _ => e_G) (fun _ _ _ _ _ _ _ => false) (fun _ ih F pc ls st w c K => match tab F.1 pc with
  | some o => o ih F ls st w c K
  | none => false) fuel
/-- an exception of one's own: its number; a cell of six slots that isn't in the picture -/
noncomputable def o_throw (E : Nat) : e_O := fun _ F _ st w c K => bif Nat.ble 6 F.2.1 && Nat.ble 90 F.2.2.1 && Nat.ble (e_stw st) 8 then (match c with
  | (q, cc, ss) => e_fo (cc + 1) fun c' => e_fo (ss + 6) fun s' => K (.inr E) w (q, c', s')) else false
noncomputable def e_hat : List (Nat × Nat) → Nat → Option Nat
  | [], _ => none
  | (e, h) :: l, E => bif Nat.beq e E then some h else e_hat l E
/-- a call whose throws are caught here: where to, by the number of the class -/
noncomputable def o_callVX (sel : Nat → Option (Nat × Nat)) (n nx : Nat) (hs : List (Nat × Nat)) : e_O := o_callX (fun g F ls K E w c => match e_hat hs E with
  | some h => g F h ls [e_Tp] w c K
  | none => false) sel n nx
noncomputable def e_sameB (a b : e_V) : Bool := match a, b with
  | .inl m, .inl n => Nat.beq m n
  | .inr (.inl (some m)), .inr (.inl (some n)) => Nat.beq m n
  | .inr (.inl none), .inr (.inl none) => true
  | .inr (.inr (.inl m)), .inr (.inr (.inl n)) => Nat.beq m n
  | .inr (.inr (.inr (.inr (.inr (.inl m))))), .inr (.inr (.inr (.inr (.inr (.inl n))))) => Nat.beq m n
  | _, _ => false
