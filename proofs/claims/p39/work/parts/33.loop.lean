/-! LOOPS THAT WRITE NOUGHTS OVER NOUGHTS, by program -/
section RL
theorem rs_1_2 : e_Sn 1 2 (o_load e_okI 1 3) := s_iload (i := .iload_n 1) (len := 1) hq_1 (by decide +kernel) rfl (.inr ⟨1, rfl, rfl, rfl⟩)
theorem rs_1_3 : e_Sn 1 3 (o_load e_okR 0 4) := s_aload (i := .aload_n 0) (len := 1) hq_1 (by decide +kernel) rfl (.inr ⟨0, rfl, rfl, rfl⟩)
theorem rs_1_4 : e_Sn 1 4 (o_alen e_fcs 5) := s_alen hq_1 (by decide +kernel) rfl
theorem rs_1_5 : e_Sn 1 5 (o_clt 8 18) := s_cge (off := (13)) hq_1 (by decide +kernel) rfl rfl
theorem rs_1_8 : e_Sn 1 8 (o_load e_okR 0 9) := s_aload (i := .aload_n 0) (len := 1) hq_1 (by decide +kernel) rfl (.inr ⟨0, rfl, rfl, rfl⟩)
theorem rs_1_9 : e_Sn 1 9 (o_load e_okI 1 10) := s_iload (i := .iload_n 1) (len := 1) hq_1 (by decide +kernel) rfl (.inr ⟨1, rfl, rfl, rfl⟩)
theorem rs_1_10 : e_Sn 1 10 (o_push (.inl 2147483648) 11) := s_iconst (n := (0)) hq_1 (by decide +kernel) rfl ⟨by decide +kernel, by decide +kernel⟩
theorem rs_1_11 : e_Sn 1 11 (o_ast 0 e_okI 12) := s_iast hq_1 (by decide +kernel) rfl
theorem rs_1_12 : e_Sn 1 12 (o_iinc 1 1 15) := s_iinc (zz := (1)) hq_1 (by decide +kernel) rfl (by decide +kernel) ⟨by decide, by decide⟩
theorem rs_1_15 : e_Sn 1 15 (o_goto 2) := s_goto (off := (-13)) hq_1 (by decide +kernel) rfl
theorem rs_50_2 : e_Sn 50 2 (o_load e_okI 2 3) := s_iload (i := .iload_n 2) (len := 1) hq_50 (by decide +kernel) rfl (.inr ⟨2, rfl, rfl, rfl⟩)
theorem rs_50_3 : e_Sn 50 3 (o_push (.inl 2147483776) 6) := s_sipush (n := (128)) hq_50 (by decide +kernel) rfl ⟨by decide +kernel, by decide +kernel⟩
theorem rs_50_6 : e_Sn 50 6 (o_clt 9 27) := s_cge (off := (21)) hq_50 (by decide +kernel) rfl rfl
theorem rs_50_9 : e_Sn 50 9 (o_load e_okR 0 10) := s_aload (i := .aload_n 0) (len := 1) hq_50 (by decide +kernel) rfl (.inr ⟨0, rfl, rfl, rfl⟩)
theorem rs_50_10 : e_Sn 50 10 (o_getf (e_f1 9 0) 13) := s_getf (C := er_9) (T := et_9) (N := 1) (ref := "Plateroomprinter$Sheet") (index := 9) (ci := 9) (k := 0) hq_50 ho_50 ⟨rfl, by decide, ei_9, r_m_2_4, .inl rfl⟩ (by decide +kernel) rfl
theorem rs_50_13 : e_Sn 50 13 (o_load e_okI 2 14) := s_iload (i := .iload_n 2) (len := 1) hq_50 (by decide +kernel) rfl (.inr ⟨2, rfl, rfl, rfl⟩)
theorem rs_50_14 : e_Sn 50 14 (o_load e_okR 1 15) := s_aload (i := .aload_n 1) (len := 1) hq_50 (by decide +kernel) rfl (.inr ⟨1, rfl, rfl, rfl⟩)
theorem rs_50_15 : e_Sn 50 15 (o_getf (e_f1 9 0) 18) := s_getf (C := er_9) (T := et_9) (N := 1) (ref := "Plateroomprinter$Sheet") (index := 9) (ci := 9) (k := 0) hq_50 ho_50 ⟨rfl, by decide, ei_9, r_m_2_4, .inl rfl⟩ (by decide +kernel) rfl
theorem rs_50_18 : e_Sn 50 18 (o_load e_okI 2 19) := s_iload (i := .iload_n 2) (len := 1) hq_50 (by decide +kernel) rfl (.inr ⟨2, rfl, rfl, rfl⟩)
theorem rs_50_19 : e_Sn 50 19 (o_ald e_fcs 20) := s_iald hq_50 (by decide +kernel) rfl
theorem rs_50_20 : e_Sn 50 20 (o_ast 0 e_okI 21) := s_iast hq_50 (by decide +kernel) rfl
theorem rs_50_21 : e_Sn 50 21 (o_iinc 2 1 24) := s_iinc (zz := (1)) hq_50 (by decide +kernel) rfl (by decide +kernel) ⟨by decide, by decide⟩
theorem rs_50_24 : e_Sn 50 24 (o_goto 2) := s_goto (off := (-22)) hq_50 (by decide +kernel) rfl
theorem r_rset {x : e_V} (hx : e_same x x = true) {n i : Nat} (hi : i < n) (k : List (Nat × e_V) → Bool) : e_rset x [(n, x)] i k = k [(n, x)] := by
  unfold e_rset
  rw [show Nat.blt i n = true from Nat.ble_eq_true_of_le hi, cond_true]
  have hc : ∀ (a m : Nat) (k : List (Nat × e_V) → Bool), e_cons a x [(m, x)] k = k [(a + m, x)] := by
    intro a m k
    cases a with
    | zero => show k [(m, x)] = k [(0 + m, x)]; rw [Nat.zero_add]
    | succ z =>
      show (bif e_same x x then e_fo (z + 1 + m) (fun q => k [(q, x)]) else k ((Nat.succ z, x) :: [(m, x)])) = _
      rw [hx, cond_true, r_fo]
  cases hn : n - i - 1 with
  | zero =>
    show e_cons i x [(1, x)] k = _
    rw [hc, show i + 1 = n by omega]
  | succ z =>
    show e_cons 1 x [(z + 1, x)] (fun l2 => e_cons i x l2 k) = _
    rw [hc]
    show e_cons i x [(1 + (z + 1), x)] k = _
    rw [hc, show i + (1 + (z + 1)) = n by omega]
theorem r_tput : ∀ (n : Nat) (t : e_T n) (i : Nat) (k : e_T n → Bool), e_tput (e_tget n t i) n t i k = k t
  | 0, t, i, k => rfl
  | n + 1, t, i, k => by
    obtain ⟨a, b⟩ : e_T n × e_T n := t
    have hg : e_tget (n + 1) (show e_T (n + 1) from ((a, b) : e_T n × e_T n)) i = bif Nat.blt i (2 ^ n) then e_tget n a i else e_tget n b (i - 2 ^ n) := rfl
    have hp : ∀ x : e_C, e_tput x (n + 1) (show e_T (n + 1) from ((a, b) : e_T n × e_T n)) i k = bif Nat.blt i (2 ^ n) then e_tput x n a i (fun a' => k (show e_T (n + 1) from ((a', b) : e_T n × e_T n))) else e_tput x n b (i - 2 ^ n) (fun b' => k (show e_T (n + 1) from ((a, b') : e_T n × e_T n))) := fun _ => rfl
    show e_tput (e_tget (n + 1) (show e_T (n + 1) from ((a, b) : e_T n × e_T n)) i) (n + 1) (show e_T (n + 1) from ((a, b) : e_T n × e_T n)) i k = k (show e_T (n + 1) from ((a, b) : e_T n × e_T n))
    rw [hp, hg]
    cases Nat.blt i (2 ^ n) with
    | true => rw [cond_true, cond_true]; exact r_tput n a i _
    | false => rw [cond_false, cond_false]; exact r_tput n b (i - 2 ^ n) _
abbrev r_0 : e_V := .inl 2147483648
/-- a nought into an array of noughts -/
theorem r_ast {nx a n m : Nat} {w : e_W} (hw : e_tget 13 w a = .inr (0, [(n, r_0)])) (ha : a < 8192) (hm : 2147483648 ≤ m) (hmn : m < n + 2147483648) (g : e_G) (F : e_F) (al : e_A) (c : e_Q) (K : e_K) : o_ast 0 e_okI nx g F al [r_0, .inl m, .inr (.inl (some a))] w c K = g F nx al [] w c K := by
  have hb : Nat.ble 2147483648 m = true := Nat.ble_eq_true_of_le hm
  have e0 : o_ast 0 e_okI nx g F al [r_0, .inl m, .inr (.inl (some a))] w c K = bif e_okI r_0 && Nat.blt a 8192 && Nat.ble 2147483648 m then (match e_tget 13 w a with
    | .inr (t, rs) => bif Nat.beq t 0 then e_rset r_0 rs (m - 2147483648) (fun rs' => e_tput (.inr (t, rs')) 13 w a (fun w' => g F nx al [] w' c K)) else false
    | _ => false) else false := rfl
  rw [e0, hb, show e_okI r_0 = true from rfl, r_blt ha, Bool.and_self, Bool.and_self, cond_true]
  generalize hi : m - 2147483648 = i
  rw [hw]
  show (bif Nat.beq 0 0 then e_rset r_0 [(n, r_0)] i (fun rs' => e_tput (.inr (0, rs')) 13 w a (fun w' => g F nx al [] w' c K)) else false) = _
  rw [show Nat.beq 0 0 = true from rfl, cond_true, r_rset rfl (by omega)]
  show e_tput (.inr (0, [(n, r_0)])) 13 w a (fun w' => g F nx al [] w' c K) = _
  rw [← hw]
  exact r_tput 13 w a _
theorem r_rlen1 (n : Nat) (v : e_V) : e_rlen [(n, v)] = n := Nat.add_zero n
theorem r_alen {nx a n : Nat} {w : e_W} (hw : e_tget 13 w a = .inr (0, [(n, r_0)])) (g : e_G) (F : e_F) (al : e_A) (r : List e_V) (c : e_Q) (K : e_K) : o_alen e_fcs nx g F al (.inr (.inl (some a)) :: r) w c K = g F nx al (.inl (n + 2147483648) :: r) w c K := by
  have e0 : ∀ q : Nat, q = 2147483648 → o_alen e_fcs nx g F al (.inr (.inl (some a)) :: r) w c K = (match e_tget 13 w a with
    | .inr (_, rs) => e_fo (e_rlen rs + q) (fun z => g F nx al (.inl z :: r) w c K)
    | _ => false) := fun q hq => by rw [hq]; rfl
  have e1 : ∀ q : Nat, q = 2147483648 → o_alen e_fcs nx g F al (.inr (.inl (some a)) :: r) w c K = g F nx al (.inl (n + q) :: r) w c K := fun q hq => by
    rw [e0 q hq, hw]
    show e_fo (e_rlen [(n, r_0)] + q) (fun z => g F nx al (.inl z :: r) w c K) = _
    rw [r_rlen1, r_fo]
  exact e1 _ rfl
theorem r_ald {nx a n m : Nat} {w : e_W} (hw : e_tget 13 w a = .inr (0, [(n, r_0)])) (hm : 2147483648 ≤ m) (hmn : m < n + 2147483648) (g : e_G) (F : e_F) (al : e_A) (r : List e_V) (c : e_Q) (K : e_K) : o_ald e_fcs nx g F al (.inl m :: .inr (.inl (some a)) :: r) w c K = g F nx al (r_0 :: r) w c K := by
  have hb : Nat.ble 2147483648 m = true := Nat.ble_eq_true_of_le hm
  have hc : Nat.ble m m = true := Nat.ble_eq_true_of_le (Nat.le_refl m)
  have e1 : ∀ q : Nat, q = 2147483648 → o_ald e_fcs nx g F al (.inl m :: .inr (.inl (some a)) :: r) w c K = (match e_tget 13 w a with
    | .inr (t, rs) => bif Nat.beq t 0 && Nat.ble q m && Nat.ble m m then (match e_rget rs (m - q) (m - q) with
      | some v => g F nx al (v :: r) w c K
      | none => false) else false
    | _ => false) := fun q hq => by
    rw [hq]
    show o_aldO 0 nx g F al (.inl m :: .inr (.inl (some a)) :: r) w c K = _
    have e2 : o_aldO 0 nx g F al (.inl m :: .inr (.inl (some a)) :: r) w c K = (match some (m, m), e_tget 13 w a with
      | some (l, h), .inr (t, rs) => bif Nat.beq t 0 && Nat.ble 2147483648 l && Nat.ble l h then (match e_rget rs (l - 2147483648) (h - 2147483648) with
        | some v => g F nx al (v :: r) w c K
        | none => false) else false
      | _, _ => false) := rfl
    rw [e2]
    cases e_tget 13 w a with
    | inl x => rfl
    | inr x => rfl
  rw [e1 _ rfl, hw]
  generalize hi : m - 2147483648 = i
  show (bif Nat.beq 0 0 && Nat.ble 2147483648 m && Nat.ble m m then (match e_rget [(n, r_0)] i i with
      | some v => g F nx al (v :: r) w c K
      | none => false) else false) = _
  rw [hb, hc, show Nat.beq 0 0 = true from rfl, Bool.and_self, Bool.and_self, cond_true]
  have hin : Nat.blt i n = true := r_blt (by omega)
  have hg : e_rget [(n, r_0)] i i = some r_0 := by
    show (bif Nat.blt i n then (bif Nat.blt i n then some r_0 else none) else e_rget [] (i - n) (i - n)) = _
    rw [hin, cond_true, cond_true]
  rw [hg]
theorem r_inc1 {nx m : Nat} {v : e_V} (hv : e_c1 (some v) = some v) (h : m + 1 < 4294967296) (g : e_G) (F : e_F) (st : List e_V) (w : e_W) (c : e_Q) (K : e_K) : o_iinc 1 1 nx g F [some v, some (.inl m)] st w c K = g F nx [some v, some (.inl (m + 1))] st w c K := by
  show e_fo ((m + 1) % 4294967296) (fun z => g F nx [e_c1 (some v), some (.inl z)] st w c K) = _
  rw [r_fo, Nat.mod_eq_of_lt h, hv]
theorem r_inc2 {nx m : Nat} {u v : e_V} (hv : e_c1 (some v) = some v) (h : m + 1 < 4294967296) (g : e_G) (F : e_F) (st : List e_V) (w : e_W) (c : e_Q) (K : e_K) : o_iinc 2 1 nx g F [some u, some v, some (.inl m)] st w c K = g F nx [some u, some v, some (.inl (m + 1))] st w c K := by
  show e_fo ((m + 1) % 4294967296) (fun z => g F nx [some u, e_c1 (some v), some (.inl z)] st w c K) = _
  rw [r_fo, Nat.mod_eq_of_lt h, hv]

/-- a round of clearRows -/
theorem r_clr1 {F : e_F} {a n m : Nat} {w : e_W} {c : e_Q} {z : e_Z} {wz : e_W} {cz : e_Q} (hM : F.1 = 1) (hw : e_tget 13 w a = .inr (0, [(n, r_0)])) (ha : a < 8192) (hm : 2147483648 ≤ m) (hmn : m < n + 2147483648) (hn : n + 2147483648 < 4294967296) (h : e_Ok F 2 [some (e_R a), some (.inl (m + 1))] [] w c z wz cz) : e_Ok F 2 [some (e_R a), some (.inl m)] [] w c z wz cz :=
  r_ext rs_1_2 hM (fun _ _ => rfl) (r_ext rs_1_3 hM (fun _ _ => rfl) (r_ext rs_1_4 hM (fun g K => r_alen hw g F _ _ c K) (r_ext rs_1_5 hM (fun g K => r_clt hmn g F _ _ w c K) (r_ext rs_1_8 hM (fun _ _ => rfl) (r_ext rs_1_9 hM (fun _ _ => rfl) (r_ext rs_1_10 hM (fun _ _ => rfl) (r_ext rs_1_11 hM (fun g K => r_ast hw ha hm hmn g F _ c K) (r_ext rs_1_12 hM (fun g K => r_inc1 rfl (by omega) g F _ w c K) (r_ext rs_1_15 hM (fun _ _ => rfl) h)))))))))
theorem r_clrN {F : e_F} {a n : Nat} {w : e_W} {c : e_Q} {z : e_Z} {wz : e_W} {cz : e_Q} (hM : F.1 = 1) (hw : e_tget 13 w a = .inr (0, [(n, r_0)])) (ha : a < 8192) (hn : n + 2147483648 < 4294967296) (h : e_Ok F 2 [some (e_R a), some (.inl (n + 2147483648))] [] w c z wz cz) : ∀ (d m : Nat), m + d = n + 2147483648 → 2147483648 ≤ m → e_Ok F 2 [some (e_R a), some (.inl m)] [] w c z wz cz
  | 0, m, hd, _ => by
    obtain rfl : m = n + 2147483648 := by omega
    exact h
  | d + 1, m, hd, hm => r_clr1 hM hw ha hm (by omega) hn (r_clrN hM hw ha hn h d (m + 1) (by omega) (by omega))
/-- a round of copyFrom -/
theorem r_cpy1 {F : e_F} {t u a b m : Nat} {ft fu : List e_V} {w : e_W} {c : e_Q} {z : e_Z} {wz : e_W} {cz : e_Q} (hM : F.1 = 50) (ht : e_tget 13 w t = .inl (9, ft)) (hu : e_tget 13 w u = .inl (9, fu)) (hta : e_nth ft 0 = some (e_R a)) (hub : e_nth fu 0 = some (e_R b)) (hwa : e_tget 13 w a = .inr (0, [(128, r_0)])) (hwb : e_tget 13 w b = .inr (0, [(128, r_0)])) (ha : a < 8192) (hm : 2147483648 ≤ m) (hmn : m < 2147483776) (h : e_Ok F 2 [some (e_R t), some (e_R u), some (.inl (m + 1))] [] w c z wz cz) : e_Ok F 2 [some (e_R t), some (e_R u), some (.inl m)] [] w c z wz cz :=
  r_ext rs_50_2 hM (fun _ _ => rfl) (r_ext rs_50_3 hM (fun _ _ => rfl) (r_ext rs_50_6 hM (fun g K => r_clt hmn g F _ _ w c K) (r_ext rs_50_9 hM (fun _ _ => rfl) (r_ext rs_50_10 hM (fun g K => r_getf ht hta g F _ _ c K) (r_ext rs_50_13 hM (fun _ _ => rfl) (r_ext rs_50_14 hM (fun _ _ => rfl) (r_ext rs_50_15 hM (fun g K => r_getf hu hub g F _ _ c K) (r_ext rs_50_18 hM (fun _ _ => rfl) (r_ext rs_50_19 hM (fun g K => r_ald hwb hm hmn g F _ _ c K) (r_ext rs_50_20 hM (fun g K => r_ast hwa ha hm hmn g F _ c K) (r_ext rs_50_21 hM (fun g K => r_inc2 rfl (by omega) g F _ w c K) (r_ext rs_50_24 hM (fun _ _ => rfl) h))))))))))))
theorem r_cpyN {F : e_F} {t u a b : Nat} {ft fu : List e_V} {w : e_W} {c : e_Q} {z : e_Z} {wz : e_W} {cz : e_Q} (hM : F.1 = 50) (ht : e_tget 13 w t = .inl (9, ft)) (hu : e_tget 13 w u = .inl (9, fu)) (hta : e_nth ft 0 = some (e_R a)) (hub : e_nth fu 0 = some (e_R b)) (hwa : e_tget 13 w a = .inr (0, [(128, r_0)])) (hwb : e_tget 13 w b = .inr (0, [(128, r_0)])) (ha : a < 8192) (h : e_Ok F 2 [some (e_R t), some (e_R u), some (.inl 2147483776)] [] w c z wz cz) : ∀ (d m : Nat), m + d = 2147483776 → 2147483648 ≤ m → e_Ok F 2 [some (e_R t), some (e_R u), some (.inl m)] [] w c z wz cz
  | 0, m, hd, _ => by
    obtain rfl : m = 2147483776 := by omega
    exact h
  | d + 1, m, hd, hm => r_cpy1 hM ht hu hta hub hwa hwb ha hm (by omega) (r_cpyN hM ht hu hta hub hwa hwb ha h d (m + 1) (by omega) (by omega))
/-- is it an array of n noughts -/
noncomputable def r_isZ (n : Nat) (x : e_C) : Bool := match x with
  | .inr (t, [(k, .inl v)]) => Nat.beq t 0 && (Nat.beq k n && Nat.beq v 2147483648)
  | _ => false
theorem r_isZ_t {n : Nat} {x : e_C} (h : r_isZ n x = true) : x = .inr (0, [(n, r_0)]) := by
  unfold r_isZ at h
  split at h
  · obtain ⟨h1, h2⟩ := (Bool.and_eq_true _ _).mp h
    obtain ⟨h2, h3⟩ := (Bool.and_eq_true _ _).mp h2
    rw [Nat.eq_of_beq_eq_true h1, Nat.eq_of_beq_eq_true h2, Nat.eq_of_beq_eq_true h3]
  · cases h
noncomputable def r_len (x : e_C) : Nat := match x with
  | .inr (_, [(k, _)]) => k
  | _ => 0
/-- the array that a Sheet has -/
noncomputable def r_shR (x : e_C) : Option Nat := match x with
  | .inl (c, (.inr (.inl (some a))) :: _) => bif Nat.beq c 9 then some a else none
  | _ => none
theorem r_shR_t {x : e_C} {a : Nat} (h : r_shR x = some a) : ∃ fs, x = .inl (9, fs) ∧ e_nth fs 0 = some (e_R a) := by
  unfold r_shR at h
  split at h
  · next c b l =>
    cases hb : Nat.beq c 9 with
    | true =>
      rw [hb, cond_true] at h
      cases h
      obtain rfl := Nat.eq_of_beq_eq_true hb
      exact ⟨_, rfl, rfl⟩
    | false => rw [hb, cond_false] at h; cases h
  · cases h
noncomputable def r_clrO (old : Option e_O) : e_O := fun g F al st w c K => match al, st with
  | [some (.inr (.inl (some a))), some (.inl m)], [] => e_fo (r_len (e_tget 13 w a)) (fun n => bif r_isZ n (e_tget 13 w a) && (Nat.blt a 8192 && (Nat.ble 2147483648 m && (Nat.blt m (n + 2147483648) && Nat.blt (n + 2147483648) 4294967296))) then e_fo (n + 2147483648) (fun e => g F 2 [some (e_R a), some (.inl e)] [] w c K) else r_old old g F al st w c K)
  | _, _ => r_old old g F al st w c K
noncomputable def r_cpyO (old : Option e_O) : e_O := fun g F al st w c K => match al, st with
  | [some (.inr (.inl (some t))), some (.inr (.inl (some u))), some (.inl m)], [] => (match r_shR (e_tget 13 w t), r_shR (e_tget 13 w u) with
    | some a, some b => bif r_isZ 128 (e_tget 13 w a) && (r_isZ 128 (e_tget 13 w b) && (Nat.blt a 8192 && (Nat.ble 2147483648 m && Nat.blt m 2147483776))) then g F 2 [some (e_R t), some (e_R u), some (.inl 2147483776)] [] w c K else r_old old g F al st w c K
    | _, _ => r_old old g F al st w c K)
  | _, _ => r_old old g F al st w c K
theorem r_clrT {old : Option e_O} (h : ∀ o, old = some o → e_Sn 1 2 o) : e_Sn 1 2 (r_clrO old) := by
  intro g hg F al st w c K hM hk
  have ho := r_oldT h g hg F al st w c K hM
  unfold r_clrO at hk
  split at hk
  · next a m =>
    rw [r_fo] at hk
    cases hc : (r_isZ (r_len (e_tget 13 w a)) (e_tget 13 w a) && (Nat.blt a 8192 && (Nat.ble 2147483648 m && (Nat.blt m (r_len (e_tget 13 w a) + 2147483648) && Nat.blt (r_len (e_tget 13 w a) + 2147483648) 4294967296)))) with
    | false => rw [hc, cond_false] at hk; exact ho hk
    | true =>
      rw [hc, cond_true, r_fo] at hk
      obtain ⟨k1, hc⟩ := (Bool.and_eq_true _ _).mp hc
      obtain ⟨k2, hc⟩ := (Bool.and_eq_true _ _).mp hc
      obtain ⟨k3, hc⟩ := (Bool.and_eq_true _ _).mp hc
      obtain ⟨k4, k5⟩ := (Bool.and_eq_true _ _).mp hc
      replace k1 := r_isZ_t k1
      generalize r_len (e_tget 13 w a) = n at hk k1 k4 k5
      replace k2 : a < 8192 := Nat.le_of_ble_eq_true k2
      replace k3 : 2147483648 ≤ m := Nat.le_of_ble_eq_true k3
      replace k4 : m < n + 2147483648 := Nat.le_of_ble_eq_true k4
      replace k5 : n + 2147483648 < 4294967296 := Nat.le_of_ble_eq_true k5
      obtain ⟨z, w', c', hK, hok⟩ := hg _ _ _ _ _ _ _ hk
      exact ⟨z, w', c', hK, r_clrN hM k1 k2 k5 hok (n + 2147483648 - m) m (by omega) k3⟩
  · exact ho hk
theorem r_cpyT {old : Option e_O} (h : ∀ o, old = some o → e_Sn 50 2 o) : e_Sn 50 2 (r_cpyO old) := by
  intro g hg F al st w c K hM hk
  have ho := r_oldT h g hg F al st w c K hM
  unfold r_cpyO at hk
  split at hk
  · next t u m =>
    split at hk
    · next a b h1 h2 =>
      cases hc : (r_isZ 128 (e_tget 13 w a) && (r_isZ 128 (e_tget 13 w b) && (Nat.blt a 8192 && (Nat.ble 2147483648 m && Nat.blt m 2147483776)))) with
      | false => rw [hc, cond_false] at hk; exact ho hk
      | true =>
        rw [hc, cond_true] at hk
        obtain ⟨k1, hc⟩ := (Bool.and_eq_true _ _).mp hc
        obtain ⟨k2, hc⟩ := (Bool.and_eq_true _ _).mp hc
        obtain ⟨k3, hc⟩ := (Bool.and_eq_true _ _).mp hc
        obtain ⟨k4, k5⟩ := (Bool.and_eq_true _ _).mp hc
        replace k1 := r_isZ_t k1
        replace k2 := r_isZ_t k2
        replace k3 : a < 8192 := Nat.le_of_ble_eq_true k3
        replace k4 : 2147483648 ≤ m := Nat.le_of_ble_eq_true k4
        replace k5 : m < 2147483776 := Nat.le_of_ble_eq_true k5
        obtain ⟨ft, g1, g2⟩ := r_shR_t h1
        obtain ⟨fu, g3, g4⟩ := r_shR_t h2
        obtain ⟨z, w', c', hK, hok⟩ := hg _ _ _ _ _ _ _ hk
        exact ⟨z, w', c', hK, r_cpyN hM g1 g3 g2 g4 k1 k2 k3 hok (2147483776 - m) m (by omega) k4⟩
    · exact ho hk
  · exact ho hk
/-- a table with another row at one place -/
noncomputable def r_ovr (M pc : Nat) (f : Option e_O → e_O) (tab : Nat → e_X) : Nat → e_X := fun N p => bif Nat.beq N M && Nat.beq p pc then some (f (tab N p)) else tab N p
theorem r_ovrT {M pc : Nat} {f : Option e_O → e_O} {tab : Nat → e_X} (ht : e_TT tab) (hf : ∀ old : Option e_O, (∀ o, old = some o → e_Sn M pc o) → e_Sn M pc (f old)) : e_TT (r_ovr M pc f tab) := by
  intro N p o ho
  unfold r_ovr at ho
  cases hb : (Nat.beq N M && Nat.beq p pc) with
  | false => rw [hb, cond_false] at ho; exact ht N p o ho
  | true =>
    rw [hb, cond_true] at ho
    obtain ⟨hb1, hb2⟩ := (Bool.and_eq_true _ _).mp hb
    obtain rfl := Nat.eq_of_beq_eq_true hb1
    obtain rfl := Nat.eq_of_beq_eq_true hb2
    cases ho
    exact hf _ (fun o h => ht N p o h)
noncomputable def r_tab : Nat → e_X := r_ovr 1 2 r_clrO (r_ovr 50 2 r_cpyO e_tab)
theorem r_tabT : e_TT r_tab := r_ovrT (r_ovrT e_tabT (fun _ h => r_cpyT h)) (fun _ h => r_clrT h)
end RL
