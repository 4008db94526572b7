section RQ
theorem rq_lt2 {a b : Nat} (h : b ≤ a) (t f : Bool) : e_lt (some (a, a)) (some (b, b)) t f = f := by
  show (bif Nat.blt a b then t else bif Nat.ble b a then f else false) = f
  have hb : Nat.blt a b = false := by
    cases hc : Nat.blt a b with
    | false => rfl
    | true => exact absurd (Nat.le_of_ble_eq_true hc) (Nat.not_le_of_lt (Nat.lt_succ_of_le h))
  rw [hb, cond_false, Nat.ble_eq_true_of_le h, cond_true]
theorem rq_iflt {tg nx i : Nat} (h : 2147483648 ≤ i) (g : e_G) (F : e_F) (al : e_A) (r : List e_V) (w : e_W) (c : e_Q) (K : e_K) : o_iflt tg nx g F al (.inl i :: r) w c K = g F nx al r w c K := by
  show e_lt (some (i, i)) (some (2147483648, 2147483648)) (g F tg al r w c K) (g F nx al r w c K) = _
  exact rq_lt2 h _ _
theorem rq_aldO {tc nx a m : Nat} {rs : List (Nat × e_V)} {v : e_V} {w : e_W} (hw : e_tget 13 w a = .inr (tc, rs)) (hm : 2147483648 ≤ m) (hv : e_rget rs (m - 2147483648) (m - 2147483648) = some v) (g : e_G) (F : e_F) (al : e_A) (r : List e_V) (c : e_Q) (K : e_K) : o_aldO tc nx g F al (.inl m :: .inr (.inl (some a)) :: r) w c K = g F nx al (v :: r) w c K := by
  have hb : Nat.ble 2147483648 m = true := Nat.ble_eq_true_of_le hm
  have hc : Nat.ble m m = true := Nat.ble_eq_true_of_le (Nat.le_refl m)
  have e1 : ∀ q : Nat, q = 2147483648 → o_aldO tc nx g F al (.inl m :: .inr (.inl (some a)) :: r) w c K = (match e_tget 13 w a with
    | .inr (t, rs) => bif Nat.beq t tc && Nat.ble q m && Nat.ble m m then (match e_rget rs (m - q) (m - q) with
      | some v => g F nx al (v :: r) w c K
      | none => false) else false
    | _ => false) := fun q hq => by
    rw [hq]
    have e2 : o_aldO tc nx g F al (.inl m :: .inr (.inl (some a)) :: r) w c K = (match some (m, m), e_tget 13 w a with
      | some (l, h), .inr (t, rs) => bif Nat.beq t tc && Nat.ble 2147483648 l && Nat.ble l h then (match e_rget rs (l - 2147483648) (h - 2147483648) with
        | some v => g F nx al (v :: r) w c K
        | none => false) else false
      | _, _ => false) := rfl
    rw [e2]
    cases e_tget 13 w a with
    | inl x => rfl
    | inr x => rfl
  rw [e1 _ rfl, hw]
  generalize m - 2147483648 = i at hv ⊢
  show (bif Nat.beq tc tc && Nat.ble 2147483648 m && Nat.ble m m then (match e_rget rs i i with
      | some v => g F nx al (v :: r) w c K
      | none => false) else false) = _
  rw [hb, hc, Nat.beq_refl, Bool.and_self, Bool.and_self, cond_true, hv]
theorem rq_isub {nx a b m : Nat} (hm : (a + 6442450944 - b) % 4294967296 = m) (g : e_G) (F : e_F) (al : e_A) (r : List e_V) (w : e_W) (c : e_Q) (K : e_K) : o_isub nx g F al (.inl b :: .inl a :: r) w c K = g F nx al (.inl m :: r) w c K := by
  show e_fo ((a + 6442450944 - b) % 4294967296) (fun z => g F nx al (.inl z :: r) w c K) = _
  rw [r_fo, hm]
theorem rq_cast {k nx q : Nat} {w : e_W} (hq : e_cod (e_tget 13 w q) = k) (g : e_G) (F : e_F) (al : e_A) (r : List e_V) (c : e_Q) (K : e_K) : o_cast k nx g F al (.inr (.inl (some q)) :: r) w c K = g F nx al (.inr (.inl (some q)) :: r) w c K := by
  show (bif Nat.beq (e_cod (e_tget 13 w q)) k then g F nx al (e_R q :: r) w c K else false) = _
  rw [hq, Nat.beq_refl, cond_true]
theorem rq_ret {ok : e_V → Bool} {v : e_V} (h : ok v = true) (g : e_G) (F : e_F) (al : e_A) (w : e_W) (c : e_Q) (K : e_K) : o_ret ok g F al [v] w c K = K (.inl (some v)) w c := by
  show (bif ok v then K (.inl (some v)) w c else false) = _
  rw [h, cond_true]
theorem rq_pOk {fr lo i n : Nat} {bx : List (Nat × e_V)} {w : e_W} {c : e_Q} (h1 : 2147483648 ≤ i) (h2 : i < n) : e_Ok (118, fr, lo, bx) 0 [some (.inl i), some (.inl n), some e_N] [] w c (.inl (some (.inl i))) w c :=
  r_ext rq_118_0 rfl (fun _ _ => rfl) (r_ext rq_118_1 rfl (fun g K => rq_iflt h1 g _ _ _ w c K) (r_ext rq_118_4 rfl (fun _ _ => rfl) (r_ext rq_118_5 rfl (fun _ _ => rfl) (r_ext rq_118_6 rfl (fun g K => r_clt h2 g _ _ _ w c K) (r_ext rq_118_16 rfl (fun _ _ => rfl) (rq_end rq_118_17 rfl (fun _ _ => rfl)))))))
theorem rq_oOk {fr lo i n : Nat} {bx : List (Nat × e_V)} {w : e_W} {c : e_Q} (hfr : 0 < fr) (hlo : 22 ≤ lo) (h1 : 2147483648 ≤ i) (h2 : i < n) : e_Ok (117, fr, lo, bx) 0 [some (.inl i), some (.inl n)] [] w c (.inl (some (.inl i))) w c :=
  r_ext rq_117_0 rfl (fun _ _ => rfl) (r_ext rq_117_1 rfl (fun _ _ => rfl) (r_ext rq_117_2 rfl (fun _ _ => rfl) (rq_ext rq_117_3 rfl (by decide) (fun g K => rq_callS (as := [.inl i, .inl n, e_N]) (r := []) (la := [some (.inl i), some (.inl n), some e_N]) hfr hlo (Nat.zero_le 8) (fun _ => rfl) (fun _ => rfl) g K) (rq_pOk h1 h2) (fun _ _ => rfl) (rq_end rq_117_6 rfl (fun _ _ => rfl)))))
theorem rq_eOk {fr lo t a m : Nat} {bx : List (Nat × e_V)} {fs : List e_V} {rs : List (Nat × e_V)} {v : e_V} {w : e_W} {c : e_Q} (hw : e_tget 13 w t = .inl (19, fs)) (h0 : e_nth fs 0 = some (e_R a)) (ha : e_tget 13 w a = .inr (3, rs)) (h1 : 2147483648 ≤ m) (hv : e_rget rs (m - 2147483648) (m - 2147483648) = some v) (hR : e_okR v = true) : e_Ok (108, fr, lo, bx) 0 [some (e_R t), some (.inl m)] [] w c (.inl (some v)) w c :=
  r_ext rq_108_0 rfl (fun _ _ => rfl) (r_ext rq_108_1 rfl (fun g K => r_getf hw h0 g _ _ _ c K) (r_ext rq_108_4 rfl (fun _ _ => rfl) (r_ext rq_108_5 rfl (fun g K => rq_aldO ha h1 hv g _ _ _ c K) (rq_end rq_108_6 rfl (fun g K => rq_ret hR g _ _ w c K)))))
theorem rq_gOk {fr lo t a m n : Nat} {bx : List (Nat × e_V)} {fs : List e_V} {rs : List (Nat × e_V)} {v : e_V} {w : e_W} {c : e_Q} (hfr : 2 ≤ fr) (hlo : 60 ≤ lo) (hw : e_tget 13 w t = .inl (19, fs)) (h0 : e_nth fs 0 = some (e_R a)) (hn : e_nth fs 1 = some (.inl n)) (ha : e_tget 13 w a = .inr (3, rs)) (h1 : 2147483648 ≤ m) (h2 : m < n) (hv : e_rget rs (m - 2147483648) (m - 2147483648) = some v) (hR : e_okR v = true) : e_Ok (110, fr, lo, bx) 0 [some (e_R t), some (.inl m)] [] w c (.inl (some v)) w c :=
  r_ext rq_110_0 rfl (fun _ _ => rfl) (r_ext rq_110_1 rfl (fun _ _ => rfl) (r_ext rq_110_2 rfl (fun g K => r_getf hw hn g _ _ _ c K) (rq_ext rq_110_5 rfl (by decide) (fun g K => rq_callS (as := [.inl m, .inl n]) (r := []) (la := [some (.inl m), some (.inl n)]) (by omega) (by omega) (Nat.zero_le 8) (fun _ => rfl) (fun _ => rfl) g K) (rq_oOk (by omega) (by omega) h1 h2) (fun _ _ => rfl) (r_ext rq_110_8 rfl (fun _ _ => rfl) (r_ext rq_110_9 rfl (fun _ _ => rfl) (r_ext rq_110_10 rfl (fun _ _ => rfl) (rq_ext rq_110_11 rfl (by decide) (fun g K => rq_callV (as := [.inl m]) (r := []) (la := [some (e_R t), some (.inl m)]) hw rfl (by omega) (by omega) (Nat.zero_le 8) (fun _ => rfl) (fun _ => rfl) g K) (rq_eOk hw h0 ha h1 hv hR) (fun _ _ => rfl) (rq_end rq_110_14 rfl (fun g K => rq_ret hR g _ _ w c K)))))))))
theorem rq_sOk {fr lo t n : Nat} {bx : List (Nat × e_V)} {fs : List e_V} {w : e_W} {c : e_Q} (hw : e_tget 13 w t = .inl (19, fs)) (hn : e_nth fs 1 = some (.inl n)) : e_Ok (116, fr, lo, bx) 0 [some (e_R t)] [] w c (.inl (some (.inl n))) w c :=
  r_ext rq_116_0 rfl (fun _ _ => rfl) (r_ext rq_116_1 rfl (fun g K => r_getf hw hn g _ _ _ c K) (rq_end rq_116_4 rfl (fun _ _ => rfl)))
theorem rq_tOk {fr lo s t a m n q : Nat} {bx : List (Nat × e_V)} {gs fs : List e_V} {rs : List (Nat × e_V)} {w : e_W} {c : e_Q} (hfr : 3 ≤ fr) (hlo : 100 ≤ lo) (hs : e_tget 13 w s = .inl (16, gs)) (hs1 : e_nth gs 1 = some (e_R t)) (hw : e_tget 13 w t = .inl (19, fs)) (h0 : e_nth fs 0 = some (e_R a)) (hn : e_nth fs 1 = some (.inl n)) (hm : (n + 6442450944 - 2147483649) % 4294967296 = m) (ha : e_tget 13 w a = .inr (3, rs)) (h1 : 2147483648 ≤ m) (h2 : m < n) (hv : e_rget rs (m - 2147483648) (m - 2147483648) = some (e_R q)) (hq : e_cod (e_tget 13 w q) = 15) : e_Ok (98, fr, lo, bx) 0 [some (e_R s)] [] w c (.inl (some (e_R q))) w c :=
  r_ext rq_98_0 rfl (fun _ _ => rfl) (r_ext rq_98_1 rfl (fun g K => r_getf hs hs1 g _ _ _ c K) (r_ext rq_98_4 rfl (fun _ _ => rfl) (r_ext rq_98_5 rfl (fun g K => r_getf hs hs1 g _ _ _ c K) (rq_ext rq_98_8 rfl (by decide) (fun g K => rq_callV (as := []) (r := [e_R t]) (la := [some (e_R t)]) hw rfl (by omega) (by omega) (Nat.le_of_ble_eq_true rfl) (fun _ => rfl) (fun _ => rfl) g K) (rq_sOk hw hn) (fun _ _ => rfl) (r_ext rq_98_11 rfl (fun _ _ => rfl) (r_ext rq_98_12 rfl (fun g K => rq_isub hm g _ _ _ w c K) (rq_ext rq_98_13 rfl (by decide) (fun g K => rq_callV (as := [.inl m]) (r := []) (la := [some (e_R t), some (.inl m)]) hw rfl (by omega) (by omega) (Nat.zero_le 8) (fun _ => rfl) (fun _ => rfl) g K) (rq_gOk (by omega) (by omega) hw h0 hn ha h1 h2 hv rfl) (fun _ _ => rfl) (r_ext rq_98_16 rfl (fun g K => rq_cast hq g _ _ _ c K) (rq_end rq_98_19 rfl (fun _ _ => rfl))))))))))
theorem rq_kOk {fr lo s u p : Nat} {bx : List (Nat × e_V)} {fs us : List e_V} {w : e_W} {c : e_Q} (hs : e_tget 13 w s = .inl (2, fs)) (hs0 : e_nth fs 0 = some (e_R u)) (hu : e_tget 13 w u = .inl (11, us)) (hu0 : e_nth us 0 = some (e_R p)) : e_Ok (24, fr, lo, bx) 0 [some (e_R s), some (.inl 2147483648), none, none, none, none, none] [] w c (.inl (some (.inl 2147483648))) w c := by
  have h83 : e_Ok (24, fr, lo, bx) 155 [some (e_R s), some (.inl 2147483648), some (.inl 2147483648), some (e_R p), some (.inl 2147483648), none, none] [(.inl 2147483648 : e_V)] w c (.inl (some (.inl 2147483648))) w c := rq_end rq_24_155 rfl (fun _ _ => rfl)
  have h82 : e_Ok (24, fr, lo, bx) 154 [some (e_R s), some (.inl 2147483648), some (.inl 2147483648), some (e_R p), some (.inl 2147483648), none, none] [] w c (.inl (some (.inl 2147483648))) w c := r_ext rq_24_154 rfl (fun _ _ => rfl) h83
  have h81 : e_Ok (24, fr, lo, bx) 41 [some (e_R s), some (.inl 2147483648), some (.inl 2147483648), some (e_R p), some (.inl 2147483648), none, none] [(.inl 2147483648 : e_V), (.inl 2147483648 : e_V)] w c (.inl (some (.inl 2147483648))) w c := r_ext rq_24_41 rfl (fun _ _ => rfl) h82
  have h80 : e_Ok (24, fr, lo, bx) 40 [some (e_R s), some (.inl 2147483648), some (.inl 2147483648), some (e_R p), some (.inl 2147483648), none, none] [(.inl 2147483648 : e_V)] w c (.inl (some (.inl 2147483648))) w c := r_ext rq_24_40 rfl (fun _ _ => rfl) h81
  have h79 : e_Ok (24, fr, lo, bx) 38 [some (e_R s), some (.inl 2147483648), some (.inl 2147483648), some (e_R p), some (.inl 2147483648), none, none] [] w c (.inl (some (.inl 2147483648))) w c := r_ext rq_24_38 rfl (fun _ _ => rfl) h80
  have h78 : e_Ok (24, fr, lo, bx) 36 [some (e_R s), some (.inl 2147483648), some (.inl 2147483648), some (e_R p), none, none, none] [(.inl 2147483648 : e_V)] w c (.inl (some (.inl 2147483648))) w c := r_ext rq_24_36 rfl (fun _ _ => rfl) h79
  have h77 : e_Ok (24, fr, lo, bx) 35 [some (e_R s), some (.inl 2147483648), some (.inl 2147483648), some (e_R p), none, none, none] [] w c (.inl (some (.inl 2147483648))) w c := r_ext rq_24_35 rfl (fun _ _ => rfl) h78
  have h76 : e_Ok (24, fr, lo, bx) 34 [some (e_R s), some (.inl 2147483648), some (.inl 2147483648), some (.inl 2147483654), none, none, none] [(e_R p : e_V)] w c (.inl (some (.inl 2147483648))) w c := r_ext rq_24_34 rfl (fun _ _ => rfl) h77
  have h75 : e_Ok (24, fr, lo, bx) 31 [some (e_R s), some (.inl 2147483648), some (.inl 2147483648), some (.inl 2147483654), none, none, none] [(e_R u : e_V)] w c (.inl (some (.inl 2147483648))) w c := r_ext rq_24_31 rfl (fun g K => r_getf hu hu0 g _ _ _ c K) h76
  have h74 : e_Ok (24, fr, lo, bx) 28 [some (e_R s), some (.inl 2147483648), some (.inl 2147483648), some (.inl 2147483654), none, none, none] [(e_R s : e_V)] w c (.inl (some (.inl 2147483648))) w c := r_ext rq_24_28 rfl (fun g K => r_getf hs hs0 g _ _ _ c K) h75
  have h73 : e_Ok (24, fr, lo, bx) 27 [some (e_R s), some (.inl 2147483648), some (.inl 2147483648), some (.inl 2147483654), none, none, none] [] w c (.inl (some (.inl 2147483648))) w c := r_ext rq_24_27 rfl (fun _ _ => rfl) h74
  have h72 : e_Ok (24, fr, lo, bx) 7 [some (e_R s), some (.inl 2147483648), some (.inl 2147483648), some (.inl 2147483654), none, none, none] [(.inl 2147483654 : e_V), (.inl 2147483654 : e_V)] w c (.inl (some (.inl 2147483648))) w c := r_ext rq_24_7 rfl (fun _ _ => rfl) h73
  have h71 : e_Ok (24, fr, lo, bx) 5 [some (e_R s), some (.inl 2147483648), some (.inl 2147483648), some (.inl 2147483654), none, none, none] [(.inl 2147483654 : e_V)] w c (.inl (some (.inl 2147483648))) w c := r_ext rq_24_5 rfl (fun _ _ => rfl) h72
  have h70 : e_Ok (24, fr, lo, bx) 4 [some (e_R s), some (.inl 2147483648), some (.inl 2147483648), some (.inl 2147483654), none, none, none] [] w c (.inl (some (.inl 2147483648))) w c := r_ext rq_24_4 rfl (fun _ _ => rfl) h71
  have h69 : e_Ok (24, fr, lo, bx) 24 [some (e_R s), some (.inl 2147483648), some (.inl 2147483648), some (.inl 2147483654), none, none, none] [] w c (.inl (some (.inl 2147483648))) w c := r_ext rq_24_24 rfl (fun _ _ => rfl) h70
  have h68 : e_Ok (24, fr, lo, bx) 21 [some (e_R s), some (.inl 2147483648), some (.inl 2147483648), some (.inl 2147483653), none, none, none] [] w c (.inl (some (.inl 2147483648))) w c := r_ext rq_24_21 rfl (fun _ _ => rfl) h69
  have h67 : e_Ok (24, fr, lo, bx) 15 [some (e_R s), some (.inl 2147483648), some (.inl 2147483648), some (.inl 2147483653), none, none, none] [(.inl 2147483648 : e_V)] w c (.inl (some (.inl 2147483648))) w c := r_ext rq_24_15 rfl (fun _ _ => rfl) h68
  have h66 : e_Ok (24, fr, lo, bx) 14 [some (e_R s), some (.inl 2147483648), some (.inl 2147483648), some (.inl 2147483653), none, none, none] [(.inl 2147483668 : e_V), (.inl 2147483648 : e_V)] w c (.inl (some (.inl 2147483648))) w c := r_ext rq_24_14 rfl (fun _ _ => rfl) h67
  have h65 : e_Ok (24, fr, lo, bx) 13 [some (e_R s), some (.inl 2147483648), some (.inl 2147483648), some (.inl 2147483653), none, none, none] [(.inl 2147483653 : e_V), (.inl 2147483652 : e_V), (.inl 2147483648 : e_V)] w c (.inl (some (.inl 2147483648))) w c := r_ext rq_24_13 rfl (fun _ _ => rfl) h66
  have h64 : e_Ok (24, fr, lo, bx) 12 [some (e_R s), some (.inl 2147483648), some (.inl 2147483648), some (.inl 2147483653), none, none, none] [(.inl 2147483652 : e_V), (.inl 2147483648 : e_V)] w c (.inl (some (.inl 2147483648))) w c := r_ext rq_24_12 rfl (fun _ _ => rfl) h65
  have h63 : e_Ok (24, fr, lo, bx) 11 [some (e_R s), some (.inl 2147483648), some (.inl 2147483648), some (.inl 2147483653), none, none, none] [(.inl 2147483648 : e_V)] w c (.inl (some (.inl 2147483648))) w c := r_ext rq_24_11 rfl (fun _ _ => rfl) h64
  have h62 : e_Ok (24, fr, lo, bx) 10 [some (e_R s), some (.inl 2147483648), some (.inl 2147483648), some (.inl 2147483653), none, none, none] [] w c (.inl (some (.inl 2147483648))) w c := r_ext rq_24_10 rfl (fun _ _ => rfl) h63
  have h61 : e_Ok (24, fr, lo, bx) 7 [some (e_R s), some (.inl 2147483648), some (.inl 2147483648), some (.inl 2147483653), none, none, none] [(.inl 2147483654 : e_V), (.inl 2147483653 : e_V)] w c (.inl (some (.inl 2147483648))) w c := r_ext rq_24_7 rfl (fun _ _ => rfl) h62
  have h60 : e_Ok (24, fr, lo, bx) 5 [some (e_R s), some (.inl 2147483648), some (.inl 2147483648), some (.inl 2147483653), none, none, none] [(.inl 2147483653 : e_V)] w c (.inl (some (.inl 2147483648))) w c := r_ext rq_24_5 rfl (fun _ _ => rfl) h61
  have h59 : e_Ok (24, fr, lo, bx) 4 [some (e_R s), some (.inl 2147483648), some (.inl 2147483648), some (.inl 2147483653), none, none, none] [] w c (.inl (some (.inl 2147483648))) w c := r_ext rq_24_4 rfl (fun _ _ => rfl) h60
  have h58 : e_Ok (24, fr, lo, bx) 24 [some (e_R s), some (.inl 2147483648), some (.inl 2147483648), some (.inl 2147483653), none, none, none] [] w c (.inl (some (.inl 2147483648))) w c := r_ext rq_24_24 rfl (fun _ _ => rfl) h59
  have h57 : e_Ok (24, fr, lo, bx) 21 [some (e_R s), some (.inl 2147483648), some (.inl 2147483648), some (.inl 2147483652), none, none, none] [] w c (.inl (some (.inl 2147483648))) w c := r_ext rq_24_21 rfl (fun _ _ => rfl) h58
  have h56 : e_Ok (24, fr, lo, bx) 15 [some (e_R s), some (.inl 2147483648), some (.inl 2147483648), some (.inl 2147483652), none, none, none] [(.inl 2147483648 : e_V)] w c (.inl (some (.inl 2147483648))) w c := r_ext rq_24_15 rfl (fun _ _ => rfl) h57
  have h55 : e_Ok (24, fr, lo, bx) 14 [some (e_R s), some (.inl 2147483648), some (.inl 2147483648), some (.inl 2147483652), none, none, none] [(.inl 2147483664 : e_V), (.inl 2147483648 : e_V)] w c (.inl (some (.inl 2147483648))) w c := r_ext rq_24_14 rfl (fun _ _ => rfl) h56
  have h54 : e_Ok (24, fr, lo, bx) 13 [some (e_R s), some (.inl 2147483648), some (.inl 2147483648), some (.inl 2147483652), none, none, none] [(.inl 2147483652 : e_V), (.inl 2147483652 : e_V), (.inl 2147483648 : e_V)] w c (.inl (some (.inl 2147483648))) w c := r_ext rq_24_13 rfl (fun _ _ => rfl) h55
  have h53 : e_Ok (24, fr, lo, bx) 12 [some (e_R s), some (.inl 2147483648), some (.inl 2147483648), some (.inl 2147483652), none, none, none] [(.inl 2147483652 : e_V), (.inl 2147483648 : e_V)] w c (.inl (some (.inl 2147483648))) w c := r_ext rq_24_12 rfl (fun _ _ => rfl) h54
  have h52 : e_Ok (24, fr, lo, bx) 11 [some (e_R s), some (.inl 2147483648), some (.inl 2147483648), some (.inl 2147483652), none, none, none] [(.inl 2147483648 : e_V)] w c (.inl (some (.inl 2147483648))) w c := r_ext rq_24_11 rfl (fun _ _ => rfl) h53
  have h51 : e_Ok (24, fr, lo, bx) 10 [some (e_R s), some (.inl 2147483648), some (.inl 2147483648), some (.inl 2147483652), none, none, none] [] w c (.inl (some (.inl 2147483648))) w c := r_ext rq_24_10 rfl (fun _ _ => rfl) h52
  have h50 : e_Ok (24, fr, lo, bx) 7 [some (e_R s), some (.inl 2147483648), some (.inl 2147483648), some (.inl 2147483652), none, none, none] [(.inl 2147483654 : e_V), (.inl 2147483652 : e_V)] w c (.inl (some (.inl 2147483648))) w c := r_ext rq_24_7 rfl (fun _ _ => rfl) h51
  have h49 : e_Ok (24, fr, lo, bx) 5 [some (e_R s), some (.inl 2147483648), some (.inl 2147483648), some (.inl 2147483652), none, none, none] [(.inl 2147483652 : e_V)] w c (.inl (some (.inl 2147483648))) w c := r_ext rq_24_5 rfl (fun _ _ => rfl) h50
  have h48 : e_Ok (24, fr, lo, bx) 4 [some (e_R s), some (.inl 2147483648), some (.inl 2147483648), some (.inl 2147483652), none, none, none] [] w c (.inl (some (.inl 2147483648))) w c := r_ext rq_24_4 rfl (fun _ _ => rfl) h49
  have h47 : e_Ok (24, fr, lo, bx) 24 [some (e_R s), some (.inl 2147483648), some (.inl 2147483648), some (.inl 2147483652), none, none, none] [] w c (.inl (some (.inl 2147483648))) w c := r_ext rq_24_24 rfl (fun _ _ => rfl) h48
  have h46 : e_Ok (24, fr, lo, bx) 21 [some (e_R s), some (.inl 2147483648), some (.inl 2147483648), some (.inl 2147483651), none, none, none] [] w c (.inl (some (.inl 2147483648))) w c := r_ext rq_24_21 rfl (fun _ _ => rfl) h47
  have h45 : e_Ok (24, fr, lo, bx) 15 [some (e_R s), some (.inl 2147483648), some (.inl 2147483648), some (.inl 2147483651), none, none, none] [(.inl 2147483648 : e_V)] w c (.inl (some (.inl 2147483648))) w c := r_ext rq_24_15 rfl (fun _ _ => rfl) h46
  have h44 : e_Ok (24, fr, lo, bx) 14 [some (e_R s), some (.inl 2147483648), some (.inl 2147483648), some (.inl 2147483651), none, none, none] [(.inl 2147483660 : e_V), (.inl 2147483648 : e_V)] w c (.inl (some (.inl 2147483648))) w c := r_ext rq_24_14 rfl (fun _ _ => rfl) h45
  have h43 : e_Ok (24, fr, lo, bx) 13 [some (e_R s), some (.inl 2147483648), some (.inl 2147483648), some (.inl 2147483651), none, none, none] [(.inl 2147483651 : e_V), (.inl 2147483652 : e_V), (.inl 2147483648 : e_V)] w c (.inl (some (.inl 2147483648))) w c := r_ext rq_24_13 rfl (fun _ _ => rfl) h44
  have h42 : e_Ok (24, fr, lo, bx) 12 [some (e_R s), some (.inl 2147483648), some (.inl 2147483648), some (.inl 2147483651), none, none, none] [(.inl 2147483652 : e_V), (.inl 2147483648 : e_V)] w c (.inl (some (.inl 2147483648))) w c := r_ext rq_24_12 rfl (fun _ _ => rfl) h43
  have h41 : e_Ok (24, fr, lo, bx) 11 [some (e_R s), some (.inl 2147483648), some (.inl 2147483648), some (.inl 2147483651), none, none, none] [(.inl 2147483648 : e_V)] w c (.inl (some (.inl 2147483648))) w c := r_ext rq_24_11 rfl (fun _ _ => rfl) h42
  have h40 : e_Ok (24, fr, lo, bx) 10 [some (e_R s), some (.inl 2147483648), some (.inl 2147483648), some (.inl 2147483651), none, none, none] [] w c (.inl (some (.inl 2147483648))) w c := r_ext rq_24_10 rfl (fun _ _ => rfl) h41
  have h39 : e_Ok (24, fr, lo, bx) 7 [some (e_R s), some (.inl 2147483648), some (.inl 2147483648), some (.inl 2147483651), none, none, none] [(.inl 2147483654 : e_V), (.inl 2147483651 : e_V)] w c (.inl (some (.inl 2147483648))) w c := r_ext rq_24_7 rfl (fun _ _ => rfl) h40
  have h38 : e_Ok (24, fr, lo, bx) 5 [some (e_R s), some (.inl 2147483648), some (.inl 2147483648), some (.inl 2147483651), none, none, none] [(.inl 2147483651 : e_V)] w c (.inl (some (.inl 2147483648))) w c := r_ext rq_24_5 rfl (fun _ _ => rfl) h39
  have h37 : e_Ok (24, fr, lo, bx) 4 [some (e_R s), some (.inl 2147483648), some (.inl 2147483648), some (.inl 2147483651), none, none, none] [] w c (.inl (some (.inl 2147483648))) w c := r_ext rq_24_4 rfl (fun _ _ => rfl) h38
  have h36 : e_Ok (24, fr, lo, bx) 24 [some (e_R s), some (.inl 2147483648), some (.inl 2147483648), some (.inl 2147483651), none, none, none] [] w c (.inl (some (.inl 2147483648))) w c := r_ext rq_24_24 rfl (fun _ _ => rfl) h37
  have h35 : e_Ok (24, fr, lo, bx) 21 [some (e_R s), some (.inl 2147483648), some (.inl 2147483648), some (.inl 2147483650), none, none, none] [] w c (.inl (some (.inl 2147483648))) w c := r_ext rq_24_21 rfl (fun _ _ => rfl) h36
  have h34 : e_Ok (24, fr, lo, bx) 15 [some (e_R s), some (.inl 2147483648), some (.inl 2147483648), some (.inl 2147483650), none, none, none] [(.inl 2147483648 : e_V)] w c (.inl (some (.inl 2147483648))) w c := r_ext rq_24_15 rfl (fun _ _ => rfl) h35
  have h33 : e_Ok (24, fr, lo, bx) 14 [some (e_R s), some (.inl 2147483648), some (.inl 2147483648), some (.inl 2147483650), none, none, none] [(.inl 2147483656 : e_V), (.inl 2147483648 : e_V)] w c (.inl (some (.inl 2147483648))) w c := r_ext rq_24_14 rfl (fun _ _ => rfl) h34
  have h32 : e_Ok (24, fr, lo, bx) 13 [some (e_R s), some (.inl 2147483648), some (.inl 2147483648), some (.inl 2147483650), none, none, none] [(.inl 2147483650 : e_V), (.inl 2147483652 : e_V), (.inl 2147483648 : e_V)] w c (.inl (some (.inl 2147483648))) w c := r_ext rq_24_13 rfl (fun _ _ => rfl) h33
  have h31 : e_Ok (24, fr, lo, bx) 12 [some (e_R s), some (.inl 2147483648), some (.inl 2147483648), some (.inl 2147483650), none, none, none] [(.inl 2147483652 : e_V), (.inl 2147483648 : e_V)] w c (.inl (some (.inl 2147483648))) w c := r_ext rq_24_12 rfl (fun _ _ => rfl) h32
  have h30 : e_Ok (24, fr, lo, bx) 11 [some (e_R s), some (.inl 2147483648), some (.inl 2147483648), some (.inl 2147483650), none, none, none] [(.inl 2147483648 : e_V)] w c (.inl (some (.inl 2147483648))) w c := r_ext rq_24_11 rfl (fun _ _ => rfl) h31
  have h29 : e_Ok (24, fr, lo, bx) 10 [some (e_R s), some (.inl 2147483648), some (.inl 2147483648), some (.inl 2147483650), none, none, none] [] w c (.inl (some (.inl 2147483648))) w c := r_ext rq_24_10 rfl (fun _ _ => rfl) h30
  have h28 : e_Ok (24, fr, lo, bx) 7 [some (e_R s), some (.inl 2147483648), some (.inl 2147483648), some (.inl 2147483650), none, none, none] [(.inl 2147483654 : e_V), (.inl 2147483650 : e_V)] w c (.inl (some (.inl 2147483648))) w c := r_ext rq_24_7 rfl (fun _ _ => rfl) h29
  have h27 : e_Ok (24, fr, lo, bx) 5 [some (e_R s), some (.inl 2147483648), some (.inl 2147483648), some (.inl 2147483650), none, none, none] [(.inl 2147483650 : e_V)] w c (.inl (some (.inl 2147483648))) w c := r_ext rq_24_5 rfl (fun _ _ => rfl) h28
  have h26 : e_Ok (24, fr, lo, bx) 4 [some (e_R s), some (.inl 2147483648), some (.inl 2147483648), some (.inl 2147483650), none, none, none] [] w c (.inl (some (.inl 2147483648))) w c := r_ext rq_24_4 rfl (fun _ _ => rfl) h27
  have h25 : e_Ok (24, fr, lo, bx) 24 [some (e_R s), some (.inl 2147483648), some (.inl 2147483648), some (.inl 2147483650), none, none, none] [] w c (.inl (some (.inl 2147483648))) w c := r_ext rq_24_24 rfl (fun _ _ => rfl) h26
  have h24 : e_Ok (24, fr, lo, bx) 21 [some (e_R s), some (.inl 2147483648), some (.inl 2147483648), some (.inl 2147483649), none, none, none] [] w c (.inl (some (.inl 2147483648))) w c := r_ext rq_24_21 rfl (fun _ _ => rfl) h25
  have h23 : e_Ok (24, fr, lo, bx) 15 [some (e_R s), some (.inl 2147483648), some (.inl 2147483648), some (.inl 2147483649), none, none, none] [(.inl 2147483648 : e_V)] w c (.inl (some (.inl 2147483648))) w c := r_ext rq_24_15 rfl (fun _ _ => rfl) h24
  have h22 : e_Ok (24, fr, lo, bx) 14 [some (e_R s), some (.inl 2147483648), some (.inl 2147483648), some (.inl 2147483649), none, none, none] [(.inl 2147483652 : e_V), (.inl 2147483648 : e_V)] w c (.inl (some (.inl 2147483648))) w c := r_ext rq_24_14 rfl (fun _ _ => rfl) h23
  have h21 : e_Ok (24, fr, lo, bx) 13 [some (e_R s), some (.inl 2147483648), some (.inl 2147483648), some (.inl 2147483649), none, none, none] [(.inl 2147483649 : e_V), (.inl 2147483652 : e_V), (.inl 2147483648 : e_V)] w c (.inl (some (.inl 2147483648))) w c := r_ext rq_24_13 rfl (fun _ _ => rfl) h22
  have h20 : e_Ok (24, fr, lo, bx) 12 [some (e_R s), some (.inl 2147483648), some (.inl 2147483648), some (.inl 2147483649), none, none, none] [(.inl 2147483652 : e_V), (.inl 2147483648 : e_V)] w c (.inl (some (.inl 2147483648))) w c := r_ext rq_24_12 rfl (fun _ _ => rfl) h21
  have h19 : e_Ok (24, fr, lo, bx) 11 [some (e_R s), some (.inl 2147483648), some (.inl 2147483648), some (.inl 2147483649), none, none, none] [(.inl 2147483648 : e_V)] w c (.inl (some (.inl 2147483648))) w c := r_ext rq_24_11 rfl (fun _ _ => rfl) h20
  have h18 : e_Ok (24, fr, lo, bx) 10 [some (e_R s), some (.inl 2147483648), some (.inl 2147483648), some (.inl 2147483649), none, none, none] [] w c (.inl (some (.inl 2147483648))) w c := r_ext rq_24_10 rfl (fun _ _ => rfl) h19
  have h17 : e_Ok (24, fr, lo, bx) 7 [some (e_R s), some (.inl 2147483648), some (.inl 2147483648), some (.inl 2147483649), none, none, none] [(.inl 2147483654 : e_V), (.inl 2147483649 : e_V)] w c (.inl (some (.inl 2147483648))) w c := r_ext rq_24_7 rfl (fun _ _ => rfl) h18
  have h16 : e_Ok (24, fr, lo, bx) 5 [some (e_R s), some (.inl 2147483648), some (.inl 2147483648), some (.inl 2147483649), none, none, none] [(.inl 2147483649 : e_V)] w c (.inl (some (.inl 2147483648))) w c := r_ext rq_24_5 rfl (fun _ _ => rfl) h17
  have h15 : e_Ok (24, fr, lo, bx) 4 [some (e_R s), some (.inl 2147483648), some (.inl 2147483648), some (.inl 2147483649), none, none, none] [] w c (.inl (some (.inl 2147483648))) w c := r_ext rq_24_4 rfl (fun _ _ => rfl) h16
  have h14 : e_Ok (24, fr, lo, bx) 24 [some (e_R s), some (.inl 2147483648), some (.inl 2147483648), some (.inl 2147483649), none, none, none] [] w c (.inl (some (.inl 2147483648))) w c := r_ext rq_24_24 rfl (fun _ _ => rfl) h15
  have h13 : e_Ok (24, fr, lo, bx) 21 [some (e_R s), some (.inl 2147483648), some (.inl 2147483648), some (.inl 2147483648), none, none, none] [] w c (.inl (some (.inl 2147483648))) w c := r_ext rq_24_21 rfl (fun _ _ => rfl) h14
  have h12 : e_Ok (24, fr, lo, bx) 15 [some (e_R s), some (.inl 2147483648), some (.inl 2147483648), some (.inl 2147483648), none, none, none] [(.inl 2147483648 : e_V)] w c (.inl (some (.inl 2147483648))) w c := r_ext rq_24_15 rfl (fun _ _ => rfl) h13
  have h11 : e_Ok (24, fr, lo, bx) 14 [some (e_R s), some (.inl 2147483648), some (.inl 2147483648), some (.inl 2147483648), none, none, none] [(.inl 2147483648 : e_V), (.inl 2147483648 : e_V)] w c (.inl (some (.inl 2147483648))) w c := r_ext rq_24_14 rfl (fun _ _ => rfl) h12
  have h10 : e_Ok (24, fr, lo, bx) 13 [some (e_R s), some (.inl 2147483648), some (.inl 2147483648), some (.inl 2147483648), none, none, none] [(.inl 2147483648 : e_V), (.inl 2147483652 : e_V), (.inl 2147483648 : e_V)] w c (.inl (some (.inl 2147483648))) w c := r_ext rq_24_13 rfl (fun _ _ => rfl) h11
  have h9 : e_Ok (24, fr, lo, bx) 12 [some (e_R s), some (.inl 2147483648), some (.inl 2147483648), some (.inl 2147483648), none, none, none] [(.inl 2147483652 : e_V), (.inl 2147483648 : e_V)] w c (.inl (some (.inl 2147483648))) w c := r_ext rq_24_12 rfl (fun _ _ => rfl) h10
  have h8 : e_Ok (24, fr, lo, bx) 11 [some (e_R s), some (.inl 2147483648), some (.inl 2147483648), some (.inl 2147483648), none, none, none] [(.inl 2147483648 : e_V)] w c (.inl (some (.inl 2147483648))) w c := r_ext rq_24_11 rfl (fun _ _ => rfl) h9
  have h7 : e_Ok (24, fr, lo, bx) 10 [some (e_R s), some (.inl 2147483648), some (.inl 2147483648), some (.inl 2147483648), none, none, none] [] w c (.inl (some (.inl 2147483648))) w c := r_ext rq_24_10 rfl (fun _ _ => rfl) h8
  have h6 : e_Ok (24, fr, lo, bx) 7 [some (e_R s), some (.inl 2147483648), some (.inl 2147483648), some (.inl 2147483648), none, none, none] [(.inl 2147483654 : e_V), (.inl 2147483648 : e_V)] w c (.inl (some (.inl 2147483648))) w c := r_ext rq_24_7 rfl (fun _ _ => rfl) h7
  have h5 : e_Ok (24, fr, lo, bx) 5 [some (e_R s), some (.inl 2147483648), some (.inl 2147483648), some (.inl 2147483648), none, none, none] [(.inl 2147483648 : e_V)] w c (.inl (some (.inl 2147483648))) w c := r_ext rq_24_5 rfl (fun _ _ => rfl) h6
  have h4 : e_Ok (24, fr, lo, bx) 4 [some (e_R s), some (.inl 2147483648), some (.inl 2147483648), some (.inl 2147483648), none, none, none] [] w c (.inl (some (.inl 2147483648))) w c := r_ext rq_24_4 rfl (fun _ _ => rfl) h5
  have h3 : e_Ok (24, fr, lo, bx) 3 [some (e_R s), some (.inl 2147483648), some (.inl 2147483648), none, none, none, none] [(.inl 2147483648 : e_V)] w c (.inl (some (.inl 2147483648))) w c := r_ext rq_24_3 rfl (fun _ _ => rfl) h4
  have h2 : e_Ok (24, fr, lo, bx) 2 [some (e_R s), some (.inl 2147483648), some (.inl 2147483648), none, none, none, none] [] w c (.inl (some (.inl 2147483648))) w c := r_ext rq_24_2 rfl (fun _ _ => rfl) h3
  have h1 : e_Ok (24, fr, lo, bx) 1 [some (e_R s), some (.inl 2147483648), none, none, none, none, none] [(.inl 2147483648 : e_V)] w c (.inl (some (.inl 2147483648))) w c := r_ext rq_24_1 rfl (fun _ _ => rfl) h2
  have h0 : e_Ok (24, fr, lo, bx) 0 [some (e_R s), some (.inl 2147483648), none, none, none, none, none] [] w c (.inl (some (.inl 2147483648))) w c := r_ext rq_24_0 rfl (fun _ _ => rfl) h1
  exact h0
noncomputable def rq_al (x : e_C) : Option (Nat × Nat) := match x with
  | .inl (ci, (.inr (.inl (some a))) :: (.inl n) :: _) => bif Nat.beq ci 19 then some (a, n) else none
  | _ => none
theorem rq_al_t {x : e_C} {a n : Nat} (h : rq_al x = some (a, n)) : ∃ fs, x = .inl (19, fs) ∧ e_nth fs 0 = some (e_R a) ∧ e_nth fs 1 = some (.inl n) := by
  unfold rq_al at h
  split at h
  · next ci b k l =>
    cases hb : Nat.beq ci 19 with
    | true =>
      rw [hb, cond_true] at h
      cases h
      obtain rfl := Nat.eq_of_beq_eq_true hb
      exact ⟨_, rfl, rfl, rfl⟩
    | false => rw [hb, cond_false] at h; cases h
  · cases h
noncomputable def rq_rs (x : e_C) : Option (List (Nat × e_V)) := match x with
  | .inr (k, rs) => bif Nat.beq k 3 then some rs else none
  | _ => none
theorem rq_rs_t {x : e_C} {rs : List (Nat × e_V)} (h : rq_rs x = some rs) : x = .inr (3, rs) := by
  unfold rq_rs at h
  split at h
  · next k l =>
    cases hb : Nat.beq k 3 with
    | true =>
      rw [hb, cond_true] at h
      cases h
      obtain rfl := Nat.eq_of_beq_eq_true hb
      rfl
    | false => rw [hb, cond_false] at h; cases h
  · cases h
noncomputable def rq_nd (o : e_O) : e_Y := fun X ls st => Prod.rec (motive := fun _ => Bool) (fun g X => Prod.rec (motive := fun _ => Bool) (fun F X => Prod.rec (motive := fun _ => Bool) (fun w X => Prod.rec (motive := fun _ => Bool) (fun c K => o g F ls st w c K) X) X) X) X
theorem rq_ndT {M pc : Nat} {o : e_O} (ho : e_Sn M pc o) : e_Sn M pc (e_un (rq_nd o)) := ho
/-- the list t: its array and its size -/
noncomputable def rq_la (w : e_W) (t : Nat) : Option (Nat × Nat) := bif Nat.ble t 8191 then rq_al (f_tg w t) else none
theorem rq_la_t {w : e_W} {t a n : Nat} (h : rq_la w t = some (a, n)) : ∃ fs, e_tget 13 w t = .inl (19, fs) ∧ e_nth fs 0 = some (e_R a) ∧ e_nth fs 1 = some (.inl n) := by
  unfold rq_la at h
  cases hb : Nat.ble t 8191 with
  | true => rw [hb, cond_true, f_tg_eq hb] at h; exact rq_al_t h
  | false => rw [hb, cond_false] at h; cases h
/-- what its array has at m -/
noncomputable def rq_gv (w : e_W) (a n m : Nat) : Option e_V := bif Nat.ble a 8191 then (match rq_rs (f_tg w a) with
    | some rs => bif Nat.ble 2147483648 m && Nat.blt m n then e_rget rs (m - 2147483648) (m - 2147483648) else none
    | none => none) else none
theorem rq_gv_t {w : e_W} {a n m : Nat} {v : e_V} (h : rq_gv w a n m = some v) : ∃ rs, e_tget 13 w a = .inr (3, rs) ∧ 2147483648 ≤ m ∧ m < n ∧ e_rget rs (m - 2147483648) (m - 2147483648) = some v := by
  unfold rq_gv at h
  cases hb : Nat.ble a 8191 with
  | false => rw [hb, cond_false] at h; cases h
  | true =>
    rw [hb, cond_true, f_tg_eq hb] at h
    split at h
    · next rs h2 =>
      cases hc : (Nat.ble 2147483648 m && Nat.blt m n) with
      | true =>
        rw [hc, cond_true] at h
        obtain ⟨g1, g2⟩ := (Bool.and_eq_true _ _).mp hc
        exact ⟨rs, rq_rs_t h2, Nat.le_of_ble_eq_true g1, Nat.le_of_ble_eq_true g2, h⟩
      | false => rw [hc, cond_false] at h; cases h
    · cases h
end RQ
