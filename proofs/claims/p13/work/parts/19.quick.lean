/-! CALLS THAT ARE GONE THROUGH AT ONCE, by program -/
section RQ
/-- one step back -/
theorem r_ext {M pc nx : Nat} {o : e_O} {F : e_F} {al al1 : e_A} {st st1 : List e_V} {w w1 : e_W} {c c1 : e_Q} {z : e_Z} {wz : e_W} {cz : e_Q} (ho : e_Sn M pc o) (hM : F.1 = M) (hf : ∀ (g : e_G) (K : e_K), o g F al st w c K = g F nx al1 st1 w1 c1 K) (h : e_Ok F nx al1 st1 w1 c1 z wz cz) : e_Ok F pc al st w c z wz cz := by
  classical
  have hg : e_Gd (fun F' pc' al' st' w' c' K => if F' = F ∧ pc' = nx ∧ al' = al1 ∧ st' = st1 ∧ w' = w1 ∧ c' = c1 then K z wz cz else false) := by
    intro F' pc' al' st' w' c' K hk
    replace hk : (if F' = F ∧ pc' = nx ∧ al' = al1 ∧ st' = st1 ∧ w' = w1 ∧ c' = c1 then K z wz cz else false) = true := hk
    by_cases hc : F' = F ∧ pc' = nx ∧ al' = al1 ∧ st' = st1 ∧ w' = w1 ∧ c' = c1
    · rw [if_pos hc] at hk
      obtain ⟨rfl, rfl, rfl, rfl, rfl, rfl⟩ := hc
      exact ⟨z, wz, cz, hk, h⟩
    · rw [if_neg hc] at hk; cases hk
  obtain ⟨z', w', c', hK, hok⟩ := ho _ hg F al st w c (fun z' w' c' => decide (z' = z ∧ w' = wz ∧ c' = cz)) hM (by
    rw [hf]
    show (if F = F ∧ nx = nx ∧ al1 = al1 ∧ st1 = st1 ∧ w1 = w1 ∧ c1 = c1 then decide (z = z ∧ wz = wz ∧ cz = cz) else false) = true
    rw [if_pos ⟨rfl, rfl, rfl, rfl, rfl, rfl⟩]
    exact decide_eq_true ⟨rfl, rfl, rfl⟩)
  obtain ⟨rfl, rfl, rfl⟩ := of_decide_eq_true hK
  exact hok
theorem r_fo (n : Nat) (k : Nat → Bool) : e_fo n k = k n := by cases n <;> rfl
theorem r_blt {a b : Nat} (h : a < b) : Nat.blt a b = true := Nat.ble_eq_true_of_le h
theorem r_clt {tg nx m n : Nat} (h : m < n) (g : e_G) (F : e_F) (al : e_A) (r : List e_V) (w : e_W) (c : e_Q) (K : e_K) : o_clt tg nx g F al (.inl n :: .inl m :: r) w c K = g F tg al r w c K := by
  show (bif Nat.blt m n then g F tg al r w c K else bif Nat.ble n m then g F nx al r w c K else false) = _
  rw [r_blt h, cond_true]
theorem r_getf {nx a ci k : Nat} {fs : List e_V} {v : e_V} {w : e_W} (hw : e_tget 13 w a = .inl (ci, fs)) (hv : e_nth fs k = some v) (g : e_G) (F : e_F) (al : e_A) (r : List e_V) (c : e_Q) (K : e_K) : o_getf (e_f1 ci k) nx g F al (.inr (.inl (some a)) :: r) w c K = g F nx al (v :: r) w c K := by
  unfold o_getf
  show (match e_tget 13 w a with
    | .inl (cj, fs) => match e_f1 ci k cj with
      | some i => match e_nth fs i with
        | some v => g F nx al (v :: r) w c K
        | none => false
      | none => false
    | _ => false) = _
  rw [hw]
  show (match (bif Nat.beq ci ci then some k else none) with
      | some i => match e_nth fs i with
        | some v => g F nx al (v :: r) w c K
        | none => false
      | none => false) = _
  rw [Nat.beq_refl, cond_true]
  show (match e_nth fs k with
        | some v => g F nx al (v :: r) w c K
        | none => false) = _
  rw [hv]
noncomputable def r_old (old : Option e_O) : e_O := fun g F al st w c K => match old with
  | some o => o g F al st w c K
  | none => false
theorem r_oldT {M pc : Nat} {old : Option e_O} (h : ∀ o, old = some o → e_Sn M pc o) : e_Sn M pc (r_old old) := by
  intro g hg F al st w c K hM hk
  unfold r_old at hk
  split at hk
  · next o => exact h o rfl g hg F al st w c K hM hk
  · cases hk
theorem hq_110 : (e_ml[110]?).map (·.2.1) = some prog_50_method_20_code := Eq.trans (congrArg (Option.map (fun e => e.2.1)) hy_110) rfl
theorem ho_110 : (e_ml[110]?).map (·.1.cls) = some "java/util/ArrayList" := Eq.trans (congrArg (Option.map (fun e => e.1.cls)) hy_110) rfl
theorem hr_110 : (e_ml[110]?).map (·.2.2.2) = some (some (.object "java/lang/Object")) := Eq.trans (congrArg (Option.map (fun e => e.2.2.2)) hy_110) rfl
theorem hq_117 : (e_ml[117]?).map (·.2.1) = some prog_56_method_17_code := Eq.trans (congrArg (Option.map (fun e => e.2.1)) hy_117) rfl
theorem ho_117 : (e_ml[117]?).map (·.1.cls) = some "java/util/Objects" := Eq.trans (congrArg (Option.map (fun e => e.1.cls)) hy_117) rfl
theorem hr_117 : (e_ml[117]?).map (·.2.2.2) = some (some .int) := Eq.trans (congrArg (Option.map (fun e => e.2.2.2)) hy_117) rfl
theorem hq_118 : (e_ml[118]?).map (·.2.1) = some prog_60_method_11_code := Eq.trans (congrArg (Option.map (fun e => e.2.1)) hy_118) rfl
theorem ho_118 : (e_ml[118]?).map (·.1.cls) = some "jdk/internal/util/Preconditions" := Eq.trans (congrArg (Option.map (fun e => e.1.cls)) hy_118) rfl
theorem hr_118 : (e_ml[118]?).map (·.2.2.2) = some (some .int) := Eq.trans (congrArg (Option.map (fun e => e.2.2.2)) hy_118) rfl
theorem hq_108 : (e_ml[108]?).map (·.2.1) = some prog_50_method_18_code := Eq.trans (congrArg (Option.map (fun e => e.2.1)) hy_108) rfl
theorem ho_108 : (e_ml[108]?).map (·.1.cls) = some "java/util/ArrayList" := Eq.trans (congrArg (Option.map (fun e => e.1.cls)) hy_108) rfl
theorem hr_108 : (e_ml[108]?).map (·.2.2.2) = some (some (.object "java/lang/Object")) := Eq.trans (congrArg (Option.map (fun e => e.2.2.2)) hy_108) rfl
theorem hq_116 : (e_ml[116]?).map (·.2.1) = some prog_50_method_8_code := Eq.trans (congrArg (Option.map (fun e => e.2.1)) hy_116) rfl
theorem ho_116 : (e_ml[116]?).map (·.1.cls) = some "java/util/ArrayList" := Eq.trans (congrArg (Option.map (fun e => e.1.cls)) hy_116) rfl
theorem hr_116 : (e_ml[116]?).map (·.2.2.2) = some (some .int) := Eq.trans (congrArg (Option.map (fun e => e.2.2.2)) hy_116) rfl
theorem hq_98 : (e_ml[98]?).map (·.2.1) = some prog_20_method_2_code := Eq.trans (congrArg (Option.map (fun e => e.2.1)) hy_98) rfl
theorem ho_98 : (e_ml[98]?).map (·.1.cls) = some "PlateroomprinterModel$Run" := Eq.trans (congrArg (Option.map (fun e => e.1.cls)) hy_98) rfl
theorem hr_98 : (e_ml[98]?).map (·.2.2.2) = some (some (.object "PlateroomprinterModel$Row")) := Eq.trans (congrArg (Option.map (fun e => e.2.2.2)) hy_98) rfl
theorem hq_24 : (e_ml[24]?).map (·.2.1) = some prog_3_method_13_code := Eq.trans (congrArg (Option.map (fun e => e.2.1)) hy_24) rfl
theorem ho_24 : (e_ml[24]?).map (·.1.cls) = some "Plateroomprinter$Engine" := Eq.trans (congrArg (Option.map (fun e => e.1.cls)) hy_24) rfl
theorem hr_24 : (e_ml[24]?).map (·.2.2.2) = some (some .int) := Eq.trans (congrArg (Option.map (fun e => e.2.2.2)) hy_24) rfl
theorem rq_110_0 : e_Sn 110 0 (o_load e_okI 1 1) := s_iload (i := .iload_n 1) (len := 1) hq_110 (by decide +kernel) rfl (.inr ⟨1, rfl, rfl, rfl⟩)
theorem rq_110_1 : e_Sn 110 1 (o_load e_okR 0 2) := s_aload (i := .aload_n 0) (len := 1) hq_110 (by decide +kernel) rfl (.inr ⟨0, rfl, rfl, rfl⟩)
theorem rq_110_2 : e_Sn 110 2 (o_getf (e_f1 19 1) 5) := s_getf (C := er_19) (T := et_19) (N := 3) (ref := "java/util/ArrayList") (index := 48) (ci := 19) (k := 1) hq_110 ho_110 ⟨rfl, by decide, ei_19, (r_k7 (List.mem_of_getElem? (i := 190) (by decide +kernel))), .inl rfl⟩ (by decide +kernel) rfl
theorem rq_110_5 : e_Sn 110 5 (o_callS 117 2 2 8) := s_callS (index := 118) hq_110 ho_110 hy_117 hp_117 hc_117 hi_117 hd_117 (r_k8 (List.mem_of_getElem? (i := 204) (by decide +kernel))) hs_117 (by decide +kernel) rfl
theorem rq_110_8 : e_Sn 110 8 (o_pop 9) := s_pop hq_110 (by decide +kernel) rfl
theorem rq_110_9 : e_Sn 110 9 (o_load e_okR 0 10) := s_aload (i := .aload_n 0) (len := 1) hq_110 (by decide +kernel) rfl (.inr ⟨0, rfl, rfl, rfl⟩)
theorem rq_110_10 : e_Sn 110 10 (o_load e_okI 1 11) := s_iload (i := .iload_n 1) (len := 1) hq_110 (by decide +kernel) rfl (.inr ⟨1, rfl, rfl, rfl⟩)
theorem rq_110_11 : e_Sn 110 11 (o_callV (e_s1 19 108 2) 2 14) := s_callV (ci := 19) (C := er_19) (T := et_19) (N := 3) (index := 123) hq_110 ho_110 hy_108 hp_108 hc_108 hi_108 hd_108 (r_k8 (List.mem_of_getElem? (i := 236) (by decide +kernel))) hs_108 (r_k8 (List.mem_of_getElem? (i := 238) (by decide +kernel))) rfl (by decide +kernel) rfl
theorem rq_110_14 : e_Sn 110 14 (o_ret e_okR) := s_aret (.inl ⟨_, rfl⟩) hq_110 hr_110 (by decide +kernel)
theorem rq_117_0 : e_Sn 117 0 (o_load e_okI 0 1) := s_iload (i := .iload_n 0) (len := 1) hq_117 (by decide +kernel) rfl (.inr ⟨0, rfl, rfl, rfl⟩)
theorem rq_117_1 : e_Sn 117 1 (o_load e_okI 1 2) := s_iload (i := .iload_n 1) (len := 1) hq_117 (by decide +kernel) rfl (.inr ⟨1, rfl, rfl, rfl⟩)
theorem rq_117_2 : e_Sn 117 2 (o_push e_N 3) := s_null hq_117 (by decide +kernel) rfl
theorem rq_117_3 : e_Sn 117 3 (o_callS 118 3 3 6) := s_callS (index := 105) hq_117 ho_117 hy_118 hp_118 hc_118 hi_118 hd_118 (r_k8 (List.mem_of_getElem? (i := 207) (by decide +kernel))) hs_118 (by decide +kernel) rfl
theorem rq_117_6 : e_Sn 117 6 (o_ret e_okI) := s_iret hq_117 hr_117 (by decide +kernel)
theorem rq_118_0 : e_Sn 118 0 (o_load e_okI 0 1) := s_iload (i := .iload_n 0) (len := 1) hq_118 (by decide +kernel) rfl (.inr ⟨0, rfl, rfl, rfl⟩)
theorem rq_118_1 : e_Sn 118 1 (o_iflt 9 4) := s_iflt (off := (8)) hq_118 (by decide +kernel) rfl rfl
theorem rq_118_4 : e_Sn 118 4 (o_load e_okI 0 5) := s_iload (i := .iload_n 0) (len := 1) hq_118 (by decide +kernel) rfl (.inr ⟨0, rfl, rfl, rfl⟩)
theorem rq_118_5 : e_Sn 118 5 (o_load e_okI 1 6) := s_iload (i := .iload_n 1) (len := 1) hq_118 (by decide +kernel) rfl (.inr ⟨1, rfl, rfl, rfl⟩)
theorem rq_118_6 : e_Sn 118 6 (o_clt 16 9) := s_clt (off := (10)) hq_118 (by decide +kernel) rfl rfl
theorem rq_118_16 : e_Sn 118 16 (o_load e_okI 0 17) := s_iload (i := .iload_n 0) (len := 1) hq_118 (by decide +kernel) rfl (.inr ⟨0, rfl, rfl, rfl⟩)
theorem rq_118_17 : e_Sn 118 17 (o_ret e_okI) := s_iret hq_118 hr_118 (by decide +kernel)
theorem rq_108_0 : e_Sn 108 0 (o_load e_okR 0 1) := s_aload (i := .aload_n 0) (len := 1) hq_108 (by decide +kernel) rfl (.inr ⟨0, rfl, rfl, rfl⟩)
theorem rq_108_1 : e_Sn 108 1 (o_getf (e_f1 19 0) 4) := s_getf (C := er_19) (T := et_19) (N := 3) (ref := "java/util/ArrayList") (index := 9) (ci := 19) (k := 0) hq_108 ho_108 ⟨rfl, by decide, ei_19, (r_k7 (List.mem_of_getElem? (i := 187) (by decide +kernel))), .inl rfl⟩ (by decide +kernel) rfl
theorem rq_108_4 : e_Sn 108 4 (o_load e_okI 1 5) := s_iload (i := .iload_n 1) (len := 1) hq_108 (by decide +kernel) rfl (.inr ⟨1, rfl, rfl, rfl⟩)
theorem rq_108_5 : e_Sn 108 5 (o_aldO 3 6) := s_aald (tc := 0) rfl hq_108 (by decide +kernel) rfl
theorem rq_108_6 : e_Sn 108 6 (o_ret e_okR) := s_aret (.inl ⟨_, rfl⟩) hq_108 hr_108 (by decide +kernel)
theorem rq_116_0 : e_Sn 116 0 (o_load e_okR 0 1) := s_aload (i := .aload_n 0) (len := 1) hq_116 (by decide +kernel) rfl (.inr ⟨0, rfl, rfl, rfl⟩)
theorem rq_116_1 : e_Sn 116 1 (o_getf (e_f1 19 1) 4) := s_getf (C := er_19) (T := et_19) (N := 3) (ref := "java/util/ArrayList") (index := 48) (ci := 19) (k := 1) hq_116 ho_116 ⟨rfl, by decide, ei_19, (r_k7 (List.mem_of_getElem? (i := 190) (by decide +kernel))), .inl rfl⟩ (by decide +kernel) rfl
theorem rq_116_4 : e_Sn 116 4 (o_ret e_okI) := s_iret hq_116 hr_116 (by decide +kernel)
theorem rq_98_0 : e_Sn 98 0 (o_load e_okR 0 1) := s_aload (i := .aload_n 0) (len := 1) hq_98 (by decide +kernel) rfl (.inr ⟨0, rfl, rfl, rfl⟩)
theorem rq_98_1 : e_Sn 98 1 (o_getf (e_f1 16 1) 4) := s_getf (C := er_16) (T := et_16) (N := 5) (ref := "PlateroomprinterModel$Run") (index := 12) (ci := 16) (k := 1) hq_98 ho_98 ⟨rfl, by decide, ei_16, (r_k9 (List.mem_of_getElem? (i := 94) (by decide +kernel))), .inl rfl⟩ (by decide +kernel) rfl
theorem rq_98_4 : e_Sn 98 4 (o_load e_okR 0 5) := s_aload (i := .aload_n 0) (len := 1) hq_98 (by decide +kernel) rfl (.inr ⟨0, rfl, rfl, rfl⟩)
theorem rq_98_5 : e_Sn 98 5 (o_getf (e_f1 16 1) 8) := s_getf (C := er_16) (T := et_16) (N := 5) (ref := "PlateroomprinterModel$Run") (index := 12) (ci := 16) (k := 1) hq_98 ho_98 ⟨rfl, by decide, ei_16, (r_k9 (List.mem_of_getElem? (i := 94) (by decide +kernel))), .inl rfl⟩ (by decide +kernel) rfl
theorem rq_98_8 : e_Sn 98 8 (o_callV (e_s1 19 116 1) 1 11) := s_callV (ci := 19) (C := er_19) (T := et_19) (N := 3) (index := 38) hq_98 ho_98 hy_116 hp_116 hc_116 hi_116 hd_116 (r_k9 (List.mem_of_getElem? (i := 124) (by decide +kernel))) hs_116 (r_k8 (List.mem_of_getElem? (i := 185) (by decide +kernel))) rfl (by decide +kernel) rfl
theorem rq_98_11 : e_Sn 98 11 (o_push (.inl 2147483649) 12) := s_iconst (n := (1)) hq_98 (by decide +kernel) rfl ⟨by decide +kernel, by decide +kernel⟩
theorem rq_98_12 : e_Sn 98 12 (o_isub 13) := s_isub hq_98 (by decide +kernel) rfl
theorem rq_98_13 : e_Sn 98 13 (o_callV (e_s1 19 110 2) 2 16) := s_callV (ci := 19) (C := er_19) (T := et_19) (N := 3) (index := 42) hq_98 ho_98 hy_110 hp_110 hc_110 hi_110 hd_110 (r_k9 (List.mem_of_getElem? (i := 125) (by decide +kernel))) hs_110 (r_k8 (List.mem_of_getElem? (i := 234) (by decide +kernel))) rfl (by decide +kernel) rfl
theorem rq_98_16 : e_Sn 98 16 (o_cast 15 19) := s_cast (index := 29) hq_98 ho_98 (r_k9 (List.mem_of_getElem? (i := 59) (by decide +kernel))) (.inl ⟨by decide, rfl⟩) (by decide +kernel) rfl
theorem rq_98_19 : e_Sn 98 19 (o_ret e_okR) := s_aret (.inl ⟨_, rfl⟩) hq_98 hr_98 (by decide +kernel)
theorem rq_24_0 : e_Sn 24 0 (o_push (.inl 2147483648) 1) := s_iconst (n := (0)) hq_24 (by decide +kernel) rfl ⟨by decide +kernel, by decide +kernel⟩
theorem rq_24_1 : e_Sn 24 1 (o_store e_okI 2 2) := s_istore (i := .istore_n 2) (len := 1) hq_24 (by decide +kernel) rfl (.inr ⟨2, rfl, rfl, rfl⟩)
theorem rq_24_2 : e_Sn 24 2 (o_push (.inl 2147483648) 3) := s_iconst (n := (0)) hq_24 (by decide +kernel) rfl ⟨by decide +kernel, by decide +kernel⟩
theorem rq_24_3 : e_Sn 24 3 (o_store e_okI 3 4) := s_istore (i := .istore_n 3) (len := 1) hq_24 (by decide +kernel) rfl (.inr ⟨3, rfl, rfl, rfl⟩)
theorem rq_24_4 : e_Sn 24 4 (o_load e_okI 3 5) := s_iload (i := .iload_n 3) (len := 1) hq_24 (by decide +kernel) rfl (.inr ⟨3, rfl, rfl, rfl⟩)
theorem rq_24_5 : e_Sn 24 5 (o_push (.inl 2147483654) 7) := s_bipush (n := (6)) hq_24 (by decide +kernel) rfl ⟨by decide +kernel, by decide +kernel⟩
theorem rq_24_7 : e_Sn 24 7 (o_clt 10 27) := s_cge (off := (20)) hq_24 (by decide +kernel) rfl rfl
theorem rq_24_10 : e_Sn 24 10 (o_load e_okI 1 11) := s_iload (i := .iload_n 1) (len := 1) hq_24 (by decide +kernel) rfl (.inr ⟨1, rfl, rfl, rfl⟩)
theorem rq_24_11 : e_Sn 24 11 (o_push (.inl 2147483652) 12) := s_iconst (n := (4)) hq_24 (by decide +kernel) rfl ⟨by decide +kernel, by decide +kernel⟩
theorem rq_24_12 : e_Sn 24 12 (o_load e_okI 3 13) := s_iload (i := .iload_n 3) (len := 1) hq_24 (by decide +kernel) rfl (.inr ⟨3, rfl, rfl, rfl⟩)
theorem rq_24_13 : e_Sn 24 13 (o_imul 14) := s_imul hq_24 (by decide +kernel) rfl
theorem rq_24_14 : e_Sn 24 14 (o_ishr 15) := s_ishr hq_24 (by decide +kernel) rfl
theorem rq_24_15 : e_Sn 24 15 (o_ifeq 21 18) := s_ifeq (off := (6)) hq_24 (by decide +kernel) rfl rfl
theorem rq_24_21 : e_Sn 24 21 (o_iinc 3 1 24) := s_iinc (zz := (1)) hq_24 (by decide +kernel) rfl (by decide +kernel) ⟨by decide, by decide⟩
theorem rq_24_24 : e_Sn 24 24 (o_goto 4) := s_goto (off := (-20)) hq_24 (by decide +kernel) rfl
theorem rq_24_27 : e_Sn 24 27 (o_load e_okR 0 28) := s_aload (i := .aload_n 0) (len := 1) hq_24 (by decide +kernel) rfl (.inr ⟨0, rfl, rfl, rfl⟩)
theorem rq_24_28 : e_Sn 24 28 (o_getf (e_f1 2 0) 31) := s_getf (C := er_2) (T := et_2) (N := 19) (ref := "Plateroomprinter$Engine") (index := 45) (ci := 2) (k := 0) hq_24 ho_24 ⟨rfl, by decide, ei_2, (r_k2 (List.mem_of_getElem? (i := 239) (by decide +kernel))), .inl rfl⟩ (by decide +kernel) rfl
theorem rq_24_31 : e_Sn 24 31 (o_getf (e_f1 11 0) 34) := s_getf (C := er_11) (T := et_11) (N := 15) (ref := "Plateroomprinter$World") (index := 93) (ci := 11) (k := 0) hq_24 ho_24 ⟨rfl, by decide, ei_11, (r_k2 (List.mem_of_getElem? (i := 83) (by decide +kernel))), .inl rfl⟩ (by decide +kernel) rfl
theorem rq_24_34 : e_Sn 24 34 (o_store e_okR 3 35) := s_astore (i := .astore_n 3) (len := 1) hq_24 (by decide +kernel) rfl (.inr ⟨3, rfl, rfl, rfl⟩)
theorem rq_24_35 : e_Sn 24 35 (o_push (.inl 2147483648) 36) := s_iconst (n := (0)) hq_24 (by decide +kernel) rfl ⟨by decide +kernel, by decide +kernel⟩
theorem rq_24_36 : e_Sn 24 36 (o_store e_okI 4 38) := s_istore (i := .istore 4) (len := 2) hq_24 (by decide +kernel) rfl (.inl ⟨rfl, rfl⟩)
theorem rq_24_38 : e_Sn 24 38 (o_load e_okI 4 40) := s_iload (i := .iload 4) (len := 2) hq_24 (by decide +kernel) rfl (.inl ⟨rfl, rfl⟩)
theorem rq_24_40 : e_Sn 24 40 (o_load e_okI 2 41) := s_iload (i := .iload_n 2) (len := 1) hq_24 (by decide +kernel) rfl (.inr ⟨2, rfl, rfl, rfl⟩)
theorem rq_24_41 : e_Sn 24 41 (o_clt 44 154) := s_cge (off := (113)) hq_24 (by decide +kernel) rfl rfl
theorem rq_24_154 : e_Sn 24 154 (o_push (.inl 2147483648) 155) := s_iconst (n := (0)) hq_24 (by decide +kernel) rfl ⟨by decide +kernel, by decide +kernel⟩
theorem rq_24_155 : e_Sn 24 155 (o_ret e_okI) := s_iret hq_24 hr_24 (by decide +kernel)
/-- a call whose callee's end is known -/
theorem rq_ext {M pc nx pa : Nat} {o : e_O} {F F1 : e_F} {al al1 la : e_A} {st st1 sa : List e_V} {w w1 : e_W} {c c1 : e_Q} {z z1 : e_Z} {wz : e_W} {cz : e_Q} {k2 : e_G → e_K → e_K} (ho : e_Sn M pc o) (hM : F.1 = M) (hx : pa ≠ nx) (hf : ∀ (g : e_G) (K : e_K), o g F al st w c K = g F1 pa la sa w c (k2 g K)) (h1 : e_Ok F1 pa la sa w c z1 w1 c1) (hq : ∀ (g : e_G) (K : e_K), k2 g K z1 w1 c1 = g F nx al1 st1 w1 c1 K) (h2 : e_Ok F nx al1 st1 w1 c1 z wz cz) : e_Ok F pc al st w c z wz cz := by
  classical
  have hg : e_Gd (fun F' pc' al' st' w' c' K => if F' = F ∧ pc' = nx ∧ al' = al1 ∧ st' = st1 ∧ w' = w1 ∧ c' = c1 then K z wz cz else if F' = F1 ∧ pc' = pa ∧ al' = la ∧ st' = sa ∧ w' = w ∧ c' = c then K z1 w1 c1 else false) := by
    intro F' pc' al' st' w' c' K hk
    replace hk : (if F' = F ∧ pc' = nx ∧ al' = al1 ∧ st' = st1 ∧ w' = w1 ∧ c' = c1 then K z wz cz else if F' = F1 ∧ pc' = pa ∧ al' = la ∧ st' = sa ∧ w' = w ∧ c' = c then K z1 w1 c1 else false) = true := hk
    by_cases hc : F' = F ∧ pc' = nx ∧ al' = al1 ∧ st' = st1 ∧ w' = w1 ∧ c' = c1
    · rw [if_pos hc] at hk
      obtain ⟨rfl, rfl, rfl, rfl, rfl, rfl⟩ := hc
      exact ⟨z, wz, cz, hk, h2⟩
    · rw [if_neg hc] at hk
      by_cases hd : F' = F1 ∧ pc' = pa ∧ al' = la ∧ st' = sa ∧ w' = w ∧ c' = c
      · rw [if_pos hd] at hk
        obtain ⟨rfl, rfl, rfl, rfl, rfl, rfl⟩ := hd
        exact ⟨z1, w1, c1, hk, h1⟩
      · rw [if_neg hd] at hk; cases hk
  obtain ⟨z', w', c', hK, hok⟩ := ho _ hg F al st w c (fun z' w' c' => decide (z' = z ∧ w' = wz ∧ c' = cz)) hM (by
    rw [hf]
    show (if F1 = F ∧ pa = nx ∧ la = al1 ∧ sa = st1 ∧ w = w1 ∧ c = c1 then _ else if F1 = F1 ∧ pa = pa ∧ la = la ∧ sa = sa ∧ w = w ∧ c = c then _ else false) = true
    rw [if_neg (fun h => hx h.2.1), if_pos ⟨rfl, rfl, rfl, rfl, rfl, rfl⟩, hq]
    show (if F = F ∧ nx = nx ∧ al1 = al1 ∧ st1 = st1 ∧ w1 = w1 ∧ c1 = c1 then decide (z = z ∧ wz = wz ∧ cz = cz) else _) = true
    rw [if_pos ⟨rfl, rfl, rfl, rfl, rfl, rfl⟩]
    exact decide_eq_true ⟨rfl, rfl, rfl⟩)
  obtain ⟨rfl, rfl, rfl⟩ := of_decide_eq_true hK
  exact hok
/-- the frame ends here -/
theorem rq_end {M pc : Nat} {o : e_O} {F : e_F} {al : e_A} {st : List e_V} {w wz : e_W} {c cz : e_Q} {z : e_Z} (ho : e_Sn M pc o) (hM : F.1 = M) (hf : ∀ (g : e_G) (K : e_K), o g F al st w c K = K z wz cz) : e_Ok F pc al st w c z wz cz := by
  classical
  obtain ⟨z', w', c', hK, hok⟩ := ho (fun _ _ _ _ _ _ _ => false) (fun _ _ _ _ _ _ _ h => absurd h Bool.false_ne_true) F al st w c (fun z' w' c' => decide (z' = z ∧ w' = wz ∧ c' = cz)) hM (by
    rw [hf]
    exact decide_eq_true ⟨rfl, rfl, rfl⟩)
  obtain ⟨rfl, rfl, rfl⟩ := of_decide_eq_true hK
  exact hok
noncomputable def rq_kk (nx : Nat) (r : List e_V) (F : e_F) (ls : e_A) (g : e_G) (K : e_K) : e_K := fun z w c => match z with
  | .inl (some v) => g F nx ls (v :: r) w c K
  | .inl none => g F nx ls r w c K
  | .inr _ => false
theorem rq_go {y m nx M fr lo : Nat} {bx : List (Nat × e_V)} {as r : List e_V} {la ls : e_A} {g : e_G} {w : e_W} {c : e_Q} {K : e_K} (hfr : 0 < fr) (hlo : m + 19 ≤ lo) (hr : e_stw r ≤ 8) (hla : ∀ k : e_A → Bool, e_loc as m k = k la) : e_go y m as nx r g (M, fr, lo, bx) ls w c K (fun _ _ _ => false) = g (y, fr - 1, lo - (m + 19), bx) 0 la [] w c (rq_kk nx r (M, fr, lo, bx) ls g K) := by
  show (bif Nat.blt 0 fr && Nat.ble (m + 19) lo && Nat.ble (e_stw r) 8 then e_fo (fr - 1) (fun fr' => e_fo (lo - (m + 19)) (fun lo' => e_loc as m (fun la =>
    g (y, fr', lo', bx) 0 la [] w c (rq_kk nx r (M, fr, lo, bx) ls g K)))) else false) = _
  rw [r_blt hfr, Nat.ble_eq_true_of_le hlo, Nat.ble_eq_true_of_le hr, Bool.and_self, Bool.and_self, cond_true, r_fo, r_fo, hla]
theorem rq_callS {y m n nx M fr lo : Nat} {bx : List (Nat × e_V)} {as r st : List e_V} {la ls : e_A} {w : e_W} {c : e_Q} (hfr : 0 < fr) (hlo : m + 19 ≤ lo) (hr : e_stw r ≤ 8) (ha : ∀ k : List e_V → List e_V → Bool, e_args n [] st k = k as r) (hla : ∀ k : e_A → Bool, e_loc as m k = k la) (g : e_G) (K : e_K) : o_callS y m n nx g (M, fr, lo, bx) ls st w c K = g (y, fr - 1, lo - (m + 19), bx) 0 la [] w c (rq_kk nx r (M, fr, lo, bx) ls g K) := by
  unfold o_callS
  rw [ha]
  exact rq_go hfr hlo hr hla
theorem rq_callV {y m n nx M fr lo q ci : Nat} {sel : Nat → Option (Nat × Nat)} {bx : List (Nat × e_V)} {as r st fs : List e_V} {la ls : e_A} {w : e_W} {c : e_Q} (hw : e_tget 13 w q = .inl (ci, fs)) (hs : sel ci = some (y, m)) (hfr : 0 < fr) (hlo : m + 19 ≤ lo) (hr : e_stw r ≤ 8) (ha : ∀ k : List e_V → List e_V → Bool, e_args n [] st k = k (.inr (.inl (some q)) :: as) r) (hla : ∀ k : e_A → Bool, e_loc (.inr (.inl (some q)) :: as) m k = k la) (g : e_G) (K : e_K) : o_callV sel n nx g (M, fr, lo, bx) ls st w c K = g (y, fr - 1, lo - (m + 19), bx) 0 la [] w c (rq_kk nx r (M, fr, lo, bx) ls g K) := by
  unfold o_callV o_callX
  rw [ha]
  show (match e_tget 13 w q with
    | .inl (ci, _) => match sel ci with
      | some (y, m) => e_go y m (.inr (.inl (some q)) :: as) nx r g (M, fr, lo, bx) ls w c K (fun _ _ _ => false)
      | none => false
    | _ => false) = _
  rw [hw]
  show (match sel ci with
      | some (y, m) => e_go y m (.inr (.inl (some q)) :: as) nx r g (M, fr, lo, bx) ls w c K (fun _ _ _ => false)
      | none => false) = _
  rw [hs]
  exact rq_go hfr hlo hr hla
theorem rq_lt2 {a b : Nat} (h : b ≤ a) (t f : Bool) : e_lt (some (a, a)) (some (b, b)) t f = f := by
  show (bif Nat.blt a b then t else bif Nat.ble b a then f else false) = f
  have hb : Nat.blt a b = false := by
    cases hc : Nat.blt a b with
    | false => rfl
    | true => exact absurd (Nat.le_of_ble_eq_true hc) (Nat.not_le_of_lt (Nat.lt_succ_of_le h))
  rw [hb, cond_false, Nat.ble_eq_true_of_le h, cond_true]
theorem rq_iflt {tg nx i : Nat} (h : 2147483648 ≤ i) (g : e_G) (F : e_F) (al : e_A) (r : List e_V) (w : e_W) (c : e_Q) (K : e_K) : o_iflt tg nx g F al (.inl i :: r) w c K = g F nx al r w c K := by
  show e_lt (some (i, i)) (some (2147483648, 2147483648)) (g F tg al r w c K) (g F nx al r w c K) = _
  exact rq_lt2 h _ _
theorem rq_aldO {tc nx a m : Nat} {rs : List (Nat × e_V)} {v : e_V} {w : e_W} (hw : e_tget 13 w a = .inr (tc, rs)) (hm : 2147483648 ≤ m) (hv : e_rget rs (m - 2147483648) (m - 2147483648) = some v) (g : e_G) (F : e_F) (al : e_A) (r : List e_V) (c : e_Q) (K : e_K) : o_aldO tc nx g F al (.inl m :: .inr (.inl (some a)) :: r) w c K = g F nx al (v :: r) w c K := by
  have hb : Nat.ble 2147483648 m = true := Nat.ble_eq_true_of_le hm
  have hc : Nat.ble m m = true := Nat.ble_eq_true_of_le (Nat.le_refl m)
  have e1 : ∀ q : Nat, q = 2147483648 → o_aldO tc nx g F al (.inl m :: .inr (.inl (some a)) :: r) w c K = (match e_tget 13 w a with
    | .inr (t, rs) => bif Nat.beq t tc && Nat.ble q m && Nat.ble m m then (match e_rget rs (m - q) (m - q) with
      | some v => g F nx al (v :: r) w c K
      | none => false) else false
    | _ => false) := fun q hq => by
    rw [hq]
    have e2 : o_aldO tc nx g F al (.inl m :: .inr (.inl (some a)) :: r) w c K = (match some (m, m), e_tget 13 w a with
      | some (l, h), .inr (t, rs) => bif Nat.beq t tc && Nat.ble 2147483648 l && Nat.ble l h then (match e_rget rs (l - 2147483648) (h - 2147483648) with
        | some v => g F nx al (v :: r) w c K
        | none => false) else false
      | _, _ => false) := rfl
    rw [e2]
    cases e_tget 13 w a with
    | inl x => rfl
    | inr x => rfl
  rw [e1 _ rfl, hw]
  generalize m - 2147483648 = i at hv ⊢
  show (bif Nat.beq tc tc && Nat.ble 2147483648 m && Nat.ble m m then (match e_rget rs i i with
      | some v => g F nx al (v :: r) w c K
      | none => false) else false) = _
  rw [hb, hc, Nat.beq_refl, Bool.and_self, Bool.and_self, cond_true, hv]
theorem rq_isub {nx a b m : Nat} (hm : (a + 6442450944 - b) % 4294967296 = m) (g : e_G) (F : e_F) (al : e_A) (r : List e_V) (w : e_W) (c : e_Q) (K : e_K) : o_isub nx g F al (.inl b :: .inl a :: r) w c K = g F nx al (.inl m :: r) w c K := by
  show e_fo ((a + 6442450944 - b) % 4294967296) (fun z => g F nx al (.inl z :: r) w c K) = _
  rw [r_fo, hm]
theorem rq_cast {k nx q : Nat} {w : e_W} (hq : e_cod (e_tget 13 w q) = k) (g : e_G) (F : e_F) (al : e_A) (r : List e_V) (c : e_Q) (K : e_K) : o_cast k nx g F al (.inr (.inl (some q)) :: r) w c K = g F nx al (.inr (.inl (some q)) :: r) w c K := by
  show (bif Nat.beq (e_cod (e_tget 13 w q)) k then g F nx al (e_R q :: r) w c K else false) = _
  rw [hq, Nat.beq_refl, cond_true]
theorem rq_ret {ok : e_V → Bool} {v : e_V} (h : ok v = true) (g : e_G) (F : e_F) (al : e_A) (w : e_W) (c : e_Q) (K : e_K) : o_ret ok g F al [v] w c K = K (.inl (some v)) w c := by
  show (bif ok v then K (.inl (some v)) w c else false) = _
  rw [h, cond_true]
theorem rq_pOk {fr lo i n : Nat} {bx : List (Nat × e_V)} {w : e_W} {c : e_Q} (h1 : 2147483648 ≤ i) (h2 : i < n) : e_Ok (118, fr, lo, bx) 0 [some (.inl i), some (.inl n), some e_N] [] w c (.inl (some (.inl i))) w c :=
  r_ext rq_118_0 rfl (fun _ _ => rfl) (r_ext rq_118_1 rfl (fun g K => rq_iflt h1 g _ _ _ w c K) (r_ext rq_118_4 rfl (fun _ _ => rfl) (r_ext rq_118_5 rfl (fun _ _ => rfl) (r_ext rq_118_6 rfl (fun g K => r_clt h2 g _ _ _ w c K) (r_ext rq_118_16 rfl (fun _ _ => rfl) (rq_end rq_118_17 rfl (fun _ _ => rfl)))))))
theorem rq_oOk {fr lo i n : Nat} {bx : List (Nat × e_V)} {w : e_W} {c : e_Q} (hfr : 0 < fr) (hlo : 22 ≤ lo) (h1 : 2147483648 ≤ i) (h2 : i < n) : e_Ok (117, fr, lo, bx) 0 [some (.inl i), some (.inl n)] [] w c (.inl (some (.inl i))) w c :=
  r_ext rq_117_0 rfl (fun _ _ => rfl) (r_ext rq_117_1 rfl (fun _ _ => rfl) (r_ext rq_117_2 rfl (fun _ _ => rfl) (rq_ext rq_117_3 rfl (by decide) (fun g K => rq_callS (as := [.inl i, .inl n, e_N]) (r := []) (la := [some (.inl i), some (.inl n), some e_N]) hfr hlo (Nat.zero_le 8) (fun _ => rfl) (fun _ => rfl) g K) (rq_pOk h1 h2) (fun _ _ => rfl) (rq_end rq_117_6 rfl (fun _ _ => rfl)))))
theorem rq_eOk {fr lo t a m : Nat} {bx : List (Nat × e_V)} {fs : List e_V} {rs : List (Nat × e_V)} {v : e_V} {w : e_W} {c : e_Q} (hw : e_tget 13 w t = .inl (19, fs)) (h0 : e_nth fs 0 = some (e_R a)) (ha : e_tget 13 w a = .inr (3, rs)) (h1 : 2147483648 ≤ m) (hv : e_rget rs (m - 2147483648) (m - 2147483648) = some v) (hR : e_okR v = true) : e_Ok (108, fr, lo, bx) 0 [some (e_R t), some (.inl m)] [] w c (.inl (some v)) w c :=
  r_ext rq_108_0 rfl (fun _ _ => rfl) (r_ext rq_108_1 rfl (fun g K => r_getf hw h0 g _ _ _ c K) (r_ext rq_108_4 rfl (fun _ _ => rfl) (r_ext rq_108_5 rfl (fun g K => rq_aldO ha h1 hv g _ _ _ c K) (rq_end rq_108_6 rfl (fun g K => rq_ret hR g _ _ w c K)))))
theorem rq_gOk {fr lo t a m n : Nat} {bx : List (Nat × e_V)} {fs : List e_V} {rs : List (Nat × e_V)} {v : e_V} {w : e_W} {c : e_Q} (hfr : 2 ≤ fr) (hlo : 60 ≤ lo) (hw : e_tget 13 w t = .inl (19, fs)) (h0 : e_nth fs 0 = some (e_R a)) (hn : e_nth fs 1 = some (.inl n)) (ha : e_tget 13 w a = .inr (3, rs)) (h1 : 2147483648 ≤ m) (h2 : m < n) (hv : e_rget rs (m - 2147483648) (m - 2147483648) = some v) (hR : e_okR v = true) : e_Ok (110, fr, lo, bx) 0 [some (e_R t), some (.inl m)] [] w c (.inl (some v)) w c :=
  r_ext rq_110_0 rfl (fun _ _ => rfl) (r_ext rq_110_1 rfl (fun _ _ => rfl) (r_ext rq_110_2 rfl (fun g K => r_getf hw hn g _ _ _ c K) (rq_ext rq_110_5 rfl (by decide) (fun g K => rq_callS (as := [.inl m, .inl n]) (r := []) (la := [some (.inl m), some (.inl n)]) (by omega) (by omega) (Nat.zero_le 8) (fun _ => rfl) (fun _ => rfl) g K) (rq_oOk (by omega) (by omega) h1 h2) (fun _ _ => rfl) (r_ext rq_110_8 rfl (fun _ _ => rfl) (r_ext rq_110_9 rfl (fun _ _ => rfl) (r_ext rq_110_10 rfl (fun _ _ => rfl) (rq_ext rq_110_11 rfl (by decide) (fun g K => rq_callV (as := [.inl m]) (r := []) (la := [some (e_R t), some (.inl m)]) hw rfl (by omega) (by omega) (Nat.zero_le 8) (fun _ => rfl) (fun _ => rfl) g K) (rq_eOk hw h0 ha h1 hv hR) (fun _ _ => rfl) (rq_end rq_110_14 rfl (fun g K => rq_ret hR g _ _ w c K)))))))))
theorem rq_sOk {fr lo t n : Nat} {bx : List (Nat × e_V)} {fs : List e_V} {w : e_W} {c : e_Q} (hw : e_tget 13 w t = .inl (19, fs)) (hn : e_nth fs 1 = some (.inl n)) : e_Ok (116, fr, lo, bx) 0 [some (e_R t)] [] w c (.inl (some (.inl n))) w c :=
  r_ext rq_116_0 rfl (fun _ _ => rfl) (r_ext rq_116_1 rfl (fun g K => r_getf hw hn g _ _ _ c K) (rq_end rq_116_4 rfl (fun _ _ => rfl)))
theorem rq_tOk {fr lo s t a m n q : Nat} {bx : List (Nat × e_V)} {gs fs : List e_V} {rs : List (Nat × e_V)} {w : e_W} {c : e_Q} (hfr : 3 ≤ fr) (hlo : 100 ≤ lo) (hs : e_tget 13 w s = .inl (16, gs)) (hs1 : e_nth gs 1 = some (e_R t)) (hw : e_tget 13 w t = .inl (19, fs)) (h0 : e_nth fs 0 = some (e_R a)) (hn : e_nth fs 1 = some (.inl n)) (hm : (n + 6442450944 - 2147483649) % 4294967296 = m) (ha : e_tget 13 w a = .inr (3, rs)) (h1 : 2147483648 ≤ m) (h2 : m < n) (hv : e_rget rs (m - 2147483648) (m - 2147483648) = some (e_R q)) (hq : e_cod (e_tget 13 w q) = 15) : e_Ok (98, fr, lo, bx) 0 [some (e_R s)] [] w c (.inl (some (e_R q))) w c :=
  r_ext rq_98_0 rfl (fun _ _ => rfl) (r_ext rq_98_1 rfl (fun g K => r_getf hs hs1 g _ _ _ c K) (r_ext rq_98_4 rfl (fun _ _ => rfl) (r_ext rq_98_5 rfl (fun g K => r_getf hs hs1 g _ _ _ c K) (rq_ext rq_98_8 rfl (by decide) (fun g K => rq_callV (as := []) (r := [e_R t]) (la := [some (e_R t)]) hw rfl (by omega) (by omega) (Nat.le_of_ble_eq_true rfl) (fun _ => rfl) (fun _ => rfl) g K) (rq_sOk hw hn) (fun _ _ => rfl) (r_ext rq_98_11 rfl (fun _ _ => rfl) (r_ext rq_98_12 rfl (fun g K => rq_isub hm g _ _ _ w c K) (rq_ext rq_98_13 rfl (by decide) (fun g K => rq_callV (as := [.inl m]) (r := []) (la := [some (e_R t), some (.inl m)]) hw rfl (by omega) (by omega) (Nat.zero_le 8) (fun _ => rfl) (fun _ => rfl) g K) (rq_gOk (by omega) (by omega) hw h0 hn ha h1 h2 hv rfl) (fun _ _ => rfl) (r_ext rq_98_16 rfl (fun g K => rq_cast hq g _ _ _ c K) (rq_end rq_98_19 rfl (fun _ _ => rfl))))))))))
theorem rq_kOk {fr lo s u p : Nat} {bx : List (Nat × e_V)} {fs us : List e_V} {w : e_W} {c : e_Q} (hs : e_tget 13 w s = .inl (2, fs)) (hs0 : e_nth fs 0 = some (e_R u)) (hu : e_tget 13 w u = .inl (11, us)) (hu0 : e_nth us 0 = some (e_R p)) : e_Ok (24, fr, lo, bx) 0 [some (e_R s), some (.inl 2147483648), none, none, none, none, none] [] w c (.inl (some (.inl 2147483648))) w c := by
  have h83 : e_Ok (24, fr, lo, bx) 155 [some (e_R s), some (.inl 2147483648), some (.inl 2147483648), some (e_R p), some (.inl 2147483648), none, none] [(.inl 2147483648 : e_V)] w c (.inl (some (.inl 2147483648))) w c := rq_end rq_24_155 rfl (fun _ _ => rfl)
  have h82 : e_Ok (24, fr, lo, bx) 154 [some (e_R s), some (.inl 2147483648), some (.inl 2147483648), some (e_R p), some (.inl 2147483648), none, none] [] w c (.inl (some (.inl 2147483648))) w c := r_ext rq_24_154 rfl (fun _ _ => rfl) h83
  have h81 : e_Ok (24, fr, lo, bx) 41 [some (e_R s), some (.inl 2147483648), some (.inl 2147483648), some (e_R p), some (.inl 2147483648), none, none] [(.inl 2147483648 : e_V), (.inl 2147483648 : e_V)] w c (.inl (some (.inl 2147483648))) w c := r_ext rq_24_41 rfl (fun _ _ => rfl) h82
  have h80 : e_Ok (24, fr, lo, bx) 40 [some (e_R s), some (.inl 2147483648), some (.inl 2147483648), some (e_R p), some (.inl 2147483648), none, none] [(.inl 2147483648 : e_V)] w c (.inl (some (.inl 2147483648))) w c := r_ext rq_24_40 rfl (fun _ _ => rfl) h81
  have h79 : e_Ok (24, fr, lo, bx) 38 [some (e_R s), some (.inl 2147483648), some (.inl 2147483648), some (e_R p), some (.inl 2147483648), none, none] [] w c (.inl (some (.inl 2147483648))) w c := r_ext rq_24_38 rfl (fun _ _ => rfl) h80
  have h78 : e_Ok (24, fr, lo, bx) 36 [some (e_R s), some (.inl 2147483648), some (.inl 2147483648), some (e_R p), none, none, none] [(.inl 2147483648 : e_V)] w c (.inl (some (.inl 2147483648))) w c := r_ext rq_24_36 rfl (fun _ _ => rfl) h79
  have h77 : e_Ok (24, fr, lo, bx) 35 [some (e_R s), some (.inl 2147483648), some (.inl 2147483648), some (e_R p), none, none, none] [] w c (.inl (some (.inl 2147483648))) w c := r_ext rq_24_35 rfl (fun _ _ => rfl) h78
  have h76 : e_Ok (24, fr, lo, bx) 34 [some (e_R s), some (.inl 2147483648), some (.inl 2147483648), some (.inl 2147483654), none, none, none] [(e_R p : e_V)] w c (.inl (some (.inl 2147483648))) w c := r_ext rq_24_34 rfl (fun _ _ => rfl) h77
  have h75 : e_Ok (24, fr, lo, bx) 31 [some (e_R s), some (.inl 2147483648), some (.inl 2147483648), some (.inl 2147483654), none, none, none] [(e_R u : e_V)] w c (.inl (some (.inl 2147483648))) w c := r_ext rq_24_31 rfl (fun g K => r_getf hu hu0 g _ _ _ c K) h76
  have h74 : e_Ok (24, fr, lo, bx) 28 [some (e_R s), some (.inl 2147483648), some (.inl 2147483648), some (.inl 2147483654), none, none, none] [(e_R s : e_V)] w c (.inl (some (.inl 2147483648))) w c := r_ext rq_24_28 rfl (fun g K => r_getf hs hs0 g _ _ _ c K) h75
  have h73 : e_Ok (24, fr, lo, bx) 27 [some (e_R s), some (.inl 2147483648), some (.inl 2147483648), some (.inl 2147483654), none, none, none] [] w c (.inl (some (.inl 2147483648))) w c := r_ext rq_24_27 rfl (fun _ _ => rfl) h74
  have h72 : e_Ok (24, fr, lo, bx) 7 [some (e_R s), some (.inl 2147483648), some (.inl 2147483648), some (.inl 2147483654), none, none, none] [(.inl 2147483654 : e_V), (.inl 2147483654 : e_V)] w c (.inl (some (.inl 2147483648))) w c := r_ext rq_24_7 rfl (fun _ _ => rfl) h73
  have h71 : e_Ok (24, fr, lo, bx) 5 [some (e_R s), some (.inl 2147483648), some (.inl 2147483648), some (.inl 2147483654), none, none, none] [(.inl 2147483654 : e_V)] w c (.inl (some (.inl 2147483648))) w c := r_ext rq_24_5 rfl (fun _ _ => rfl) h72
  have h70 : e_Ok (24, fr, lo, bx) 4 [some (e_R s), some (.inl 2147483648), some (.inl 2147483648), some (.inl 2147483654), none, none, none] [] w c (.inl (some (.inl 2147483648))) w c := r_ext rq_24_4 rfl (fun _ _ => rfl) h71
  have h69 : e_Ok (24, fr, lo, bx) 24 [some (e_R s), some (.inl 2147483648), some (.inl 2147483648), some (.inl 2147483654), none, none, none] [] w c (.inl (some (.inl 2147483648))) w c := r_ext rq_24_24 rfl (fun _ _ => rfl) h70
  have h68 : e_Ok (24, fr, lo, bx) 21 [some (e_R s), some (.inl 2147483648), some (.inl 2147483648), some (.inl 2147483653), none, none, none] [] w c (.inl (some (.inl 2147483648))) w c := r_ext rq_24_21 rfl (fun _ _ => rfl) h69
  have h67 : e_Ok (24, fr, lo, bx) 15 [some (e_R s), some (.inl 2147483648), some (.inl 2147483648), some (.inl 2147483653), none, none, none] [(.inl 2147483648 : e_V)] w c (.inl (some (.inl 2147483648))) w c := r_ext rq_24_15 rfl (fun _ _ => rfl) h68
  have h66 : e_Ok (24, fr, lo, bx) 14 [some (e_R s), some (.inl 2147483648), some (.inl 2147483648), some (.inl 2147483653), none, none, none] [(.inl 2147483668 : e_V), (.inl 2147483648 : e_V)] w c (.inl (some (.inl 2147483648))) w c := r_ext rq_24_14 rfl (fun _ _ => rfl) h67
  have h65 : e_Ok (24, fr, lo, bx) 13 [some (e_R s), some (.inl 2147483648), some (.inl 2147483648), some (.inl 2147483653), none, none, none] [(.inl 2147483653 : e_V), (.inl 2147483652 : e_V), (.inl 2147483648 : e_V)] w c (.inl (some (.inl 2147483648))) w c := r_ext rq_24_13 rfl (fun _ _ => rfl) h66
  have h64 : e_Ok (24, fr, lo, bx) 12 [some (e_R s), some (.inl 2147483648), some (.inl 2147483648), some (.inl 2147483653), none, none, none] [(.inl 2147483652 : e_V), (.inl 2147483648 : e_V)] w c (.inl (some (.inl 2147483648))) w c := r_ext rq_24_12 rfl (fun _ _ => rfl) h65
  have h63 : e_Ok (24, fr, lo, bx) 11 [some (e_R s), some (.inl 2147483648), some (.inl 2147483648), some (.inl 2147483653), none, none, none] [(.inl 2147483648 : e_V)] w c (.inl (some (.inl 2147483648))) w c := r_ext rq_24_11 rfl (fun _ _ => rfl) h64
  have h62 : e_Ok (24, fr, lo, bx) 10 [some (e_R s), some (.inl 2147483648), some (.inl 2147483648), some (.inl 2147483653), none, none, none] [] w c (.inl (some (.inl 2147483648))) w c := r_ext rq_24_10 rfl (fun _ _ => rfl) h63
  have h61 : e_Ok (24, fr, lo, bx) 7 [some (e_R s), some (.inl 2147483648), some (.inl 2147483648), some (.inl 2147483653), none, none, none] [(.inl 2147483654 : e_V), (.inl 2147483653 : e_V)] w c (.inl (some (.inl 2147483648))) w c := r_ext rq_24_7 rfl (fun _ _ => rfl) h62
  have h60 : e_Ok (24, fr, lo, bx) 5 [some (e_R s), some (.inl 2147483648), some (.inl 2147483648), some (.inl 2147483653), none, none, none] [(.inl 2147483653 : e_V)] w c (.inl (some (.inl 2147483648))) w c := r_ext rq_24_5 rfl (fun _ _ => rfl) h61
  have h59 : e_Ok (24, fr, lo, bx) 4 [some (e_R s), some (.inl 2147483648), some (.inl 2147483648), some (.inl 2147483653), none, none, none] [] w c (.inl (some (.inl 2147483648))) w c := r_ext rq_24_4 rfl (fun _ _ => rfl) h60
  have h58 : e_Ok (24, fr, lo, bx) 24 [some (e_R s), some (.inl 2147483648), some (.inl 2147483648), some (.inl 2147483653), none, none, none] [] w c (.inl (some (.inl 2147483648))) w c := r_ext rq_24_24 rfl (fun _ _ => rfl) h59
  have h57 : e_Ok (24, fr, lo, bx) 21 [some (e_R s), some (.inl 2147483648), some (.inl 2147483648), some (.inl 2147483652), none, none, none] [] w c (.inl (some (.inl 2147483648))) w c := r_ext rq_24_21 rfl (fun _ _ => rfl) h58
  have h56 : e_Ok (24, fr, lo, bx) 15 [some (e_R s), some (.inl 2147483648), some (.inl 2147483648), some (.inl 2147483652), none, none, none] [(.inl 2147483648 : e_V)] w c (.inl (some (.inl 2147483648))) w c := r_ext rq_24_15 rfl (fun _ _ => rfl) h57
  have h55 : e_Ok (24, fr, lo, bx) 14 [some (e_R s), some (.inl 2147483648), some (.inl 2147483648), some (.inl 2147483652), none, none, none] [(.inl 2147483664 : e_V), (.inl 2147483648 : e_V)] w c (.inl (some (.inl 2147483648))) w c := r_ext rq_24_14 rfl (fun _ _ => rfl) h56
  have h54 : e_Ok (24, fr, lo, bx) 13 [some (e_R s), some (.inl 2147483648), some (.inl 2147483648), some (.inl 2147483652), none, none, none] [(.inl 2147483652 : e_V), (.inl 2147483652 : e_V), (.inl 2147483648 : e_V)] w c (.inl (some (.inl 2147483648))) w c := r_ext rq_24_13 rfl (fun _ _ => rfl) h55
  have h53 : e_Ok (24, fr, lo, bx) 12 [some (e_R s), some (.inl 2147483648), some (.inl 2147483648), some (.inl 2147483652), none, none, none] [(.inl 2147483652 : e_V), (.inl 2147483648 : e_V)] w c (.inl (some (.inl 2147483648))) w c := r_ext rq_24_12 rfl (fun _ _ => rfl) h54
  have h52 : e_Ok (24, fr, lo, bx) 11 [some (e_R s), some (.inl 2147483648), some (.inl 2147483648), some (.inl 2147483652), none, none, none] [(.inl 2147483648 : e_V)] w c (.inl (some (.inl 2147483648))) w c := r_ext rq_24_11 rfl (fun _ _ => rfl) h53
  have h51 : e_Ok (24, fr, lo, bx) 10 [some (e_R s), some (.inl 2147483648), some (.inl 2147483648), some (.inl 2147483652), none, none, none] [] w c (.inl (some (.inl 2147483648))) w c := r_ext rq_24_10 rfl (fun _ _ => rfl) h52
  have h50 : e_Ok (24, fr, lo, bx) 7 [some (e_R s), some (.inl 2147483648), some (.inl 2147483648), some (.inl 2147483652), none, none, none] [(.inl 2147483654 : e_V), (.inl 2147483652 : e_V)] w c (.inl (some (.inl 2147483648))) w c := r_ext rq_24_7 rfl (fun _ _ => rfl) h51
  have h49 : e_Ok (24, fr, lo, bx) 5 [some (e_R s), some (.inl 2147483648), some (.inl 2147483648), some (.inl 2147483652), none, none, none] [(.inl 2147483652 : e_V)] w c (.inl (some (.inl 2147483648))) w c := r_ext rq_24_5 rfl (fun _ _ => rfl) h50
  have h48 : e_Ok (24, fr, lo, bx) 4 [some (e_R s), some (.inl 2147483648), some (.inl 2147483648), some (.inl 2147483652), none, none, none] [] w c (.inl (some (.inl 2147483648))) w c := r_ext rq_24_4 rfl (fun _ _ => rfl) h49
  have h47 : e_Ok (24, fr, lo, bx) 24 [some (e_R s), some (.inl 2147483648), some (.inl 2147483648), some (.inl 2147483652), none, none, none] [] w c (.inl (some (.inl 2147483648))) w c := r_ext rq_24_24 rfl (fun _ _ => rfl) h48
  have h46 : e_Ok (24, fr, lo, bx) 21 [some (e_R s), some (.inl 2147483648), some (.inl 2147483648), some (.inl 2147483651), none, none, none] [] w c (.inl (some (.inl 2147483648))) w c := r_ext rq_24_21 rfl (fun _ _ => rfl) h47
  have h45 : e_Ok (24, fr, lo, bx) 15 [some (e_R s), some (.inl 2147483648), some (.inl 2147483648), some (.inl 2147483651), none, none, none] [(.inl 2147483648 : e_V)] w c (.inl (some (.inl 2147483648))) w c := r_ext rq_24_15 rfl (fun _ _ => rfl) h46
  have h44 : e_Ok (24, fr, lo, bx) 14 [some (e_R s), some (.inl 2147483648), some (.inl 2147483648), some (.inl 2147483651), none, none, none] [(.inl 2147483660 : e_V), (.inl 2147483648 : e_V)] w c (.inl (some (.inl 2147483648))) w c := r_ext rq_24_14 rfl (fun _ _ => rfl) h45
  have h43 : e_Ok (24, fr, lo, bx) 13 [some (e_R s), some (.inl 2147483648), some (.inl 2147483648), some (.inl 2147483651), none, none, none] [(.inl 2147483651 : e_V), (.inl 2147483652 : e_V), (.inl 2147483648 : e_V)] w c (.inl (some (.inl 2147483648))) w c := r_ext rq_24_13 rfl (fun _ _ => rfl) h44
  have h42 : e_Ok (24, fr, lo, bx) 12 [some (e_R s), some (.inl 2147483648), some (.inl 2147483648), some (.inl 2147483651), none, none, none] [(.inl 2147483652 : e_V), (.inl 2147483648 : e_V)] w c (.inl (some (.inl 2147483648))) w c := r_ext rq_24_12 rfl (fun _ _ => rfl) h43
  have h41 : e_Ok (24, fr, lo, bx) 11 [some (e_R s), some (.inl 2147483648), some (.inl 2147483648), some (.inl 2147483651), none, none, none] [(.inl 2147483648 : e_V)] w c (.inl (some (.inl 2147483648))) w c := r_ext rq_24_11 rfl (fun _ _ => rfl) h42
  have h40 : e_Ok (24, fr, lo, bx) 10 [some (e_R s), some (.inl 2147483648), some (.inl 2147483648), some (.inl 2147483651), none, none, none] [] w c (.inl (some (.inl 2147483648))) w c := r_ext rq_24_10 rfl (fun _ _ => rfl) h41
  have h39 : e_Ok (24, fr, lo, bx) 7 [some (e_R s), some (.inl 2147483648), some (.inl 2147483648), some (.inl 2147483651), none, none, none] [(.inl 2147483654 : e_V), (.inl 2147483651 : e_V)] w c (.inl (some (.inl 2147483648))) w c := r_ext rq_24_7 rfl (fun _ _ => rfl) h40
  have h38 : e_Ok (24, fr, lo, bx) 5 [some (e_R s), some (.inl 2147483648), some (.inl 2147483648), some (.inl 2147483651), none, none, none] [(.inl 2147483651 : e_V)] w c (.inl (some (.inl 2147483648))) w c := r_ext rq_24_5 rfl (fun _ _ => rfl) h39
  have h37 : e_Ok (24, fr, lo, bx) 4 [some (e_R s), some (.inl 2147483648), some (.inl 2147483648), some (.inl 2147483651), none, none, none] [] w c (.inl (some (.inl 2147483648))) w c := r_ext rq_24_4 rfl (fun _ _ => rfl) h38
  have h36 : e_Ok (24, fr, lo, bx) 24 [some (e_R s), some (.inl 2147483648), some (.inl 2147483648), some (.inl 2147483651), none, none, none] [] w c (.inl (some (.inl 2147483648))) w c := r_ext rq_24_24 rfl (fun _ _ => rfl) h37
  have h35 : e_Ok (24, fr, lo, bx) 21 [some (e_R s), some (.inl 2147483648), some (.inl 2147483648), some (.inl 2147483650), none, none, none] [] w c (.inl (some (.inl 2147483648))) w c := r_ext rq_24_21 rfl (fun _ _ => rfl) h36
  have h34 : e_Ok (24, fr, lo, bx) 15 [some (e_R s), some (.inl 2147483648), some (.inl 2147483648), some (.inl 2147483650), none, none, none] [(.inl 2147483648 : e_V)] w c (.inl (some (.inl 2147483648))) w c := r_ext rq_24_15 rfl (fun _ _ => rfl) h35
  have h33 : e_Ok (24, fr, lo, bx) 14 [some (e_R s), some (.inl 2147483648), some (.inl 2147483648), some (.inl 2147483650), none, none, none] [(.inl 2147483656 : e_V), (.inl 2147483648 : e_V)] w c (.inl (some (.inl 2147483648))) w c := r_ext rq_24_14 rfl (fun _ _ => rfl) h34
  have h32 : e_Ok (24, fr, lo, bx) 13 [some (e_R s), some (.inl 2147483648), some (.inl 2147483648), some (.inl 2147483650), none, none, none] [(.inl 2147483650 : e_V), (.inl 2147483652 : e_V), (.inl 2147483648 : e_V)] w c (.inl (some (.inl 2147483648))) w c := r_ext rq_24_13 rfl (fun _ _ => rfl) h33
  have h31 : e_Ok (24, fr, lo, bx) 12 [some (e_R s), some (.inl 2147483648), some (.inl 2147483648), some (.inl 2147483650), none, none, none] [(.inl 2147483652 : e_V), (.inl 2147483648 : e_V)] w c (.inl (some (.inl 2147483648))) w c := r_ext rq_24_12 rfl (fun _ _ => rfl) h32
  have h30 : e_Ok (24, fr, lo, bx) 11 [some (e_R s), some (.inl 2147483648), some (.inl 2147483648), some (.inl 2147483650), none, none, none] [(.inl 2147483648 : e_V)] w c (.inl (some (.inl 2147483648))) w c := r_ext rq_24_11 rfl (fun _ _ => rfl) h31
  have h29 : e_Ok (24, fr, lo, bx) 10 [some (e_R s), some (.inl 2147483648), some (.inl 2147483648), some (.inl 2147483650), none, none, none] [] w c (.inl (some (.inl 2147483648))) w c := r_ext rq_24_10 rfl (fun _ _ => rfl) h30
  have h28 : e_Ok (24, fr, lo, bx) 7 [some (e_R s), some (.inl 2147483648), some (.inl 2147483648), some (.inl 2147483650), none, none, none] [(.inl 2147483654 : e_V), (.inl 2147483650 : e_V)] w c (.inl (some (.inl 2147483648))) w c := r_ext rq_24_7 rfl (fun _ _ => rfl) h29
  have h27 : e_Ok (24, fr, lo, bx) 5 [some (e_R s), some (.inl 2147483648), some (.inl 2147483648), some (.inl 2147483650), none, none, none] [(.inl 2147483650 : e_V)] w c (.inl (some (.inl 2147483648))) w c := r_ext rq_24_5 rfl (fun _ _ => rfl) h28
  have h26 : e_Ok (24, fr, lo, bx) 4 [some (e_R s), some (.inl 2147483648), some (.inl 2147483648), some (.inl 2147483650), none, none, none] [] w c (.inl (some (.inl 2147483648))) w c := r_ext rq_24_4 rfl (fun _ _ => rfl) h27
  have h25 : e_Ok (24, fr, lo, bx) 24 [some (e_R s), some (.inl 2147483648), some (.inl 2147483648), some (.inl 2147483650), none, none, none] [] w c (.inl (some (.inl 2147483648))) w c := r_ext rq_24_24 rfl (fun _ _ => rfl) h26
  have h24 : e_Ok (24, fr, lo, bx) 21 [some (e_R s), some (.inl 2147483648), some (.inl 2147483648), some (.inl 2147483649), none, none, none] [] w c (.inl (some (.inl 2147483648))) w c := r_ext rq_24_21 rfl (fun _ _ => rfl) h25
  have h23 : e_Ok (24, fr, lo, bx) 15 [some (e_R s), some (.inl 2147483648), some (.inl 2147483648), some (.inl 2147483649), none, none, none] [(.inl 2147483648 : e_V)] w c (.inl (some (.inl 2147483648))) w c := r_ext rq_24_15 rfl (fun _ _ => rfl) h24
  have h22 : e_Ok (24, fr, lo, bx) 14 [some (e_R s), some (.inl 2147483648), some (.inl 2147483648), some (.inl 2147483649), none, none, none] [(.inl 2147483652 : e_V), (.inl 2147483648 : e_V)] w c (.inl (some (.inl 2147483648))) w c := r_ext rq_24_14 rfl (fun _ _ => rfl) h23
  have h21 : e_Ok (24, fr, lo, bx) 13 [some (e_R s), some (.inl 2147483648), some (.inl 2147483648), some (.inl 2147483649), none, none, none] [(.inl 2147483649 : e_V), (.inl 2147483652 : e_V), (.inl 2147483648 : e_V)] w c (.inl (some (.inl 2147483648))) w c := r_ext rq_24_13 rfl (fun _ _ => rfl) h22
  have h20 : e_Ok (24, fr, lo, bx) 12 [some (e_R s), some (.inl 2147483648), some (.inl 2147483648), some (.inl 2147483649), none, none, none] [(.inl 2147483652 : e_V), (.inl 2147483648 : e_V)] w c (.inl (some (.inl 2147483648))) w c := r_ext rq_24_12 rfl (fun _ _ => rfl) h21
  have h19 : e_Ok (24, fr, lo, bx) 11 [some (e_R s), some (.inl 2147483648), some (.inl 2147483648), some (.inl 2147483649), none, none, none] [(.inl 2147483648 : e_V)] w c (.inl (some (.inl 2147483648))) w c := r_ext rq_24_11 rfl (fun _ _ => rfl) h20
  have h18 : e_Ok (24, fr, lo, bx) 10 [some (e_R s), some (.inl 2147483648), some (.inl 2147483648), some (.inl 2147483649), none, none, none] [] w c (.inl (some (.inl 2147483648))) w c := r_ext rq_24_10 rfl (fun _ _ => rfl) h19
  have h17 : e_Ok (24, fr, lo, bx) 7 [some (e_R s), some (.inl 2147483648), some (.inl 2147483648), some (.inl 2147483649), none, none, none] [(.inl 2147483654 : e_V), (.inl 2147483649 : e_V)] w c (.inl (some (.inl 2147483648))) w c := r_ext rq_24_7 rfl (fun _ _ => rfl) h18
  have h16 : e_Ok (24, fr, lo, bx) 5 [some (e_R s), some (.inl 2147483648), some (.inl 2147483648), some (.inl 2147483649), none, none, none] [(.inl 2147483649 : e_V)] w c (.inl (some (.inl 2147483648))) w c := r_ext rq_24_5 rfl (fun _ _ => rfl) h17
  have h15 : e_Ok (24, fr, lo, bx) 4 [some (e_R s), some (.inl 2147483648), some (.inl 2147483648), some (.inl 2147483649), none, none, none] [] w c (.inl (some (.inl 2147483648))) w c := r_ext rq_24_4 rfl (fun _ _ => rfl) h16
  have h14 : e_Ok (24, fr, lo, bx) 24 [some (e_R s), some (.inl 2147483648), some (.inl 2147483648), some (.inl 2147483649), none, none, none] [] w c (.inl (some (.inl 2147483648))) w c := r_ext rq_24_24 rfl (fun _ _ => rfl) h15
  have h13 : e_Ok (24, fr, lo, bx) 21 [some (e_R s), some (.inl 2147483648), some (.inl 2147483648), some (.inl 2147483648), none, none, none] [] w c (.inl (some (.inl 2147483648))) w c := r_ext rq_24_21 rfl (fun _ _ => rfl) h14
  have h12 : e_Ok (24, fr, lo, bx) 15 [some (e_R s), some (.inl 2147483648), some (.inl 2147483648), some (.inl 2147483648), none, none, none] [(.inl 2147483648 : e_V)] w c (.inl (some (.inl 2147483648))) w c := r_ext rq_24_15 rfl (fun _ _ => rfl) h13
  have h11 : e_Ok (24, fr, lo, bx) 14 [some (e_R s), some (.inl 2147483648), some (.inl 2147483648), some (.inl 2147483648), none, none, none] [(.inl 2147483648 : e_V), (.inl 2147483648 : e_V)] w c (.inl (some (.inl 2147483648))) w c := r_ext rq_24_14 rfl (fun _ _ => rfl) h12
  have h10 : e_Ok (24, fr, lo, bx) 13 [some (e_R s), some (.inl 2147483648), some (.inl 2147483648), some (.inl 2147483648), none, none, none] [(.inl 2147483648 : e_V), (.inl 2147483652 : e_V), (.inl 2147483648 : e_V)] w c (.inl (some (.inl 2147483648))) w c := r_ext rq_24_13 rfl (fun _ _ => rfl) h11
  have h9 : e_Ok (24, fr, lo, bx) 12 [some (e_R s), some (.inl 2147483648), some (.inl 2147483648), some (.inl 2147483648), none, none, none] [(.inl 2147483652 : e_V), (.inl 2147483648 : e_V)] w c (.inl (some (.inl 2147483648))) w c := r_ext rq_24_12 rfl (fun _ _ => rfl) h10
  have h8 : e_Ok (24, fr, lo, bx) 11 [some (e_R s), some (.inl 2147483648), some (.inl 2147483648), some (.inl 2147483648), none, none, none] [(.inl 2147483648 : e_V)] w c (.inl (some (.inl 2147483648))) w c := r_ext rq_24_11 rfl (fun _ _ => rfl) h9
  have h7 : e_Ok (24, fr, lo, bx) 10 [some (e_R s), some (.inl 2147483648), some (.inl 2147483648), some (.inl 2147483648), none, none, none] [] w c (.inl (some (.inl 2147483648))) w c := r_ext rq_24_10 rfl (fun _ _ => rfl) h8
  have h6 : e_Ok (24, fr, lo, bx) 7 [some (e_R s), some (.inl 2147483648), some (.inl 2147483648), some (.inl 2147483648), none, none, none] [(.inl 2147483654 : e_V), (.inl 2147483648 : e_V)] w c (.inl (some (.inl 2147483648))) w c := r_ext rq_24_7 rfl (fun _ _ => rfl) h7
  have h5 : e_Ok (24, fr, lo, bx) 5 [some (e_R s), some (.inl 2147483648), some (.inl 2147483648), some (.inl 2147483648), none, none, none] [(.inl 2147483648 : e_V)] w c (.inl (some (.inl 2147483648))) w c := r_ext rq_24_5 rfl (fun _ _ => rfl) h6
  have h4 : e_Ok (24, fr, lo, bx) 4 [some (e_R s), some (.inl 2147483648), some (.inl 2147483648), some (.inl 2147483648), none, none, none] [] w c (.inl (some (.inl 2147483648))) w c := r_ext rq_24_4 rfl (fun _ _ => rfl) h5
  have h3 : e_Ok (24, fr, lo, bx) 3 [some (e_R s), some (.inl 2147483648), some (.inl 2147483648), none, none, none, none] [(.inl 2147483648 : e_V)] w c (.inl (some (.inl 2147483648))) w c := r_ext rq_24_3 rfl (fun _ _ => rfl) h4
  have h2 : e_Ok (24, fr, lo, bx) 2 [some (e_R s), some (.inl 2147483648), some (.inl 2147483648), none, none, none, none] [] w c (.inl (some (.inl 2147483648))) w c := r_ext rq_24_2 rfl (fun _ _ => rfl) h3
  have h1 : e_Ok (24, fr, lo, bx) 1 [some (e_R s), some (.inl 2147483648), none, none, none, none, none] [(.inl 2147483648 : e_V)] w c (.inl (some (.inl 2147483648))) w c := r_ext rq_24_1 rfl (fun _ _ => rfl) h2
  have h0 : e_Ok (24, fr, lo, bx) 0 [some (e_R s), some (.inl 2147483648), none, none, none, none, none] [] w c (.inl (some (.inl 2147483648))) w c := r_ext rq_24_0 rfl (fun _ _ => rfl) h1
  exact h0
noncomputable def rq_al (x : e_C) : Option (Nat × Nat) := match x with
  | .inl (ci, (.inr (.inl (some a))) :: (.inl n) :: _) => bif Nat.beq ci 19 then some (a, n) else none
  | _ => none
theorem rq_al_t {x : e_C} {a n : Nat} (h : rq_al x = some (a, n)) : ∃ fs, x = .inl (19, fs) ∧ e_nth fs 0 = some (e_R a) ∧ e_nth fs 1 = some (.inl n) := by
  unfold rq_al at h
  split at h
  · next ci b k l =>
    cases hb : Nat.beq ci 19 with
    | true =>
      rw [hb, cond_true] at h
      cases h
      obtain rfl := Nat.eq_of_beq_eq_true hb
      exact ⟨_, rfl, rfl, rfl⟩
    | false => rw [hb, cond_false] at h; cases h
  · cases h
noncomputable def rq_rs (x : e_C) : Option (List (Nat × e_V)) := match x with
  | .inr (k, rs) => bif Nat.beq k 3 then some rs else none
  | _ => none
theorem rq_rs_t {x : e_C} {rs : List (Nat × e_V)} (h : rq_rs x = some rs) : x = .inr (3, rs) := by
  unfold rq_rs at h
  split at h
  · next k l =>
    cases hb : Nat.beq k 3 with
    | true =>
      rw [hb, cond_true] at h
      cases h
      obtain rfl := Nat.eq_of_beq_eq_true hb
      rfl
    | false => rw [hb, cond_false] at h; cases h
  · cases h
noncomputable def rq_nd (o : e_O) : e_Y := fun X ls st => Prod.rec (motive := fun _ => Bool) (fun g X => Prod.rec (motive := fun _ => Bool) (fun F X => Prod.rec (motive := fun _ => Bool) (fun w X => Prod.rec (motive := fun _ => Bool) (fun c K => o g F ls st w c K) X) X) X) X
theorem rq_ndT {M pc : Nat} {o : e_O} (ho : e_Sn M pc o) : e_Sn M pc (e_un (rq_nd o)) := ho
/-- the list t: its array and its size -/
noncomputable def rq_la (w : e_W) (t : Nat) : Option (Nat × Nat) := bif Nat.ble t 8191 then rq_al (f_tg w t) else none
theorem rq_la_t {w : e_W} {t a n : Nat} (h : rq_la w t = some (a, n)) : ∃ fs, e_tget 13 w t = .inl (19, fs) ∧ e_nth fs 0 = some (e_R a) ∧ e_nth fs 1 = some (.inl n) := by
  unfold rq_la at h
  cases hb : Nat.ble t 8191 with
  | true => rw [hb, cond_true, f_tg_eq hb] at h; exact rq_al_t h
  | false => rw [hb, cond_false] at h; cases h
/-- what its array has at m -/
noncomputable def rq_gv (w : e_W) (a n m : Nat) : Option e_V := bif Nat.ble a 8191 then (match rq_rs (f_tg w a) with
    | some rs => bif Nat.ble 2147483648 m && Nat.blt m n then e_rget rs (m - 2147483648) (m - 2147483648) else none
    | none => none) else none
theorem rq_gv_t {w : e_W} {a n m : Nat} {v : e_V} (h : rq_gv w a n m = some v) : ∃ rs, e_tget 13 w a = .inr (3, rs) ∧ 2147483648 ≤ m ∧ m < n ∧ e_rget rs (m - 2147483648) (m - 2147483648) = some v := by
  unfold rq_gv at h
  cases hb : Nat.ble a 8191 with
  | false => rw [hb, cond_false] at h; cases h
  | true =>
    rw [hb, cond_true, f_tg_eq hb] at h
    split at h
    · next rs h2 =>
      cases hc : (Nat.ble 2147483648 m && Nat.blt m n) with
      | true =>
        rw [hc, cond_true] at h
        obtain ⟨g1, g2⟩ := (Bool.and_eq_true _ _).mp hc
        exact ⟨rs, rq_rs_t h2, Nat.le_of_ble_eq_true g1, Nat.le_of_ble_eq_true g2, h⟩
      | false => rw [hc, cond_false] at h; cases h
    · cases h
noncomputable def rq_getO (old : Option e_O) : e_O := fun g F al st w c K => match al, st with
  | [some (.inr (.inl (some t))), some (.inl m)], [] => (match rq_la w t with
    | some (a, n) => (match rq_gv w a n m with
      | some v => bif e_okR v && (Nat.ble 2 F.2.1 && Nat.ble 60 F.2.2.1) then K (.inl (some v)) w c else r_old old g F al st w c K
      | none => r_old old g F al st w c K)
    | none => r_old old g F al st w c K)
  | _, _ => r_old old g F al st w c K
theorem rq_getT {old : Option e_O} (h : ∀ o, old = some o → e_Sn 110 0 o) : e_Sn 110 0 (rq_getO old) := by
  intro g hg F al st w c K hM hk
  have ho := r_oldT h g hg F al st w c K hM
  unfold rq_getO at hk
  split at hk
  · next t m =>
    split at hk
    · next a n ha =>
      split at hk
      · next v hv =>
        cases hc : (e_okR v && (Nat.ble 2 F.2.1 && Nat.ble 60 F.2.2.1)) with
        | false => rw [hc, cond_false] at hk; exact ho hk
        | true =>
          rw [hc, cond_true] at hk
          obtain ⟨k1, hc⟩ := (Bool.and_eq_true _ _).mp hc
          obtain ⟨k2, k3⟩ := (Bool.and_eq_true _ _).mp hc
          obtain ⟨F1, fr, lo, bx⟩ := F
          have hM1 : F1 = 110 := hM
          subst hM1
          obtain ⟨fs, g1, g2, g3⟩ := rq_la_t ha
          obtain ⟨rs, g4, g5, g6, g7⟩ := rq_gv_t hv
          exact ⟨_, w, c, hk, rq_gOk (Nat.le_of_ble_eq_true k2) (Nat.le_of_ble_eq_true k3) g1 g2 g3 g4 g5 g6 g7 k1⟩
      · exact ho hk
    · exact ho hk
  · exact ho hk
noncomputable def rq_ls (x : e_C) : Option Nat := match x with
  | .inl (ci, _ :: (.inr (.inl (some t))) :: _) => bif Nat.beq ci 16 then some t else none
  | _ => none
theorem rq_ls_t {x : e_C} {t : Nat} (h : rq_ls x = some t) : ∃ gs, x = .inl (16, gs) ∧ e_nth gs 1 = some (e_R t) := by
  unfold rq_ls at h
  split at h
  · next ci y b l =>
    cases hb : Nat.beq ci 16 with
    | true =>
      rw [hb, cond_true] at h
      cases h
      obtain rfl := Nat.eq_of_beq_eq_true hb
      exact ⟨_, rfl, rfl⟩
    | false => rw [hb, cond_false] at h; cases h
  · cases h
noncomputable def rq_lw (w : e_W) (s : Nat) : Option Nat := bif Nat.ble s 8191 then rq_ls (f_tg w s) else none
theorem rq_lw_t {w : e_W} {s t : Nat} (h : rq_lw w s = some t) : ∃ gs, e_tget 13 w s = .inl (16, gs) ∧ e_nth gs 1 = some (e_R t) := by
  unfold rq_lw at h
  cases hb : Nat.ble s 8191 with
  | true => rw [hb, cond_true, f_tg_eq hb] at h; exact rq_ls_t h
  | false => rw [hb, cond_false] at h; cases h
noncomputable def rq_rf (v : Option e_V) : Option Nat := match v with
  | some (.inr (.inl (some q))) => some q
  | _ => none
theorem rq_rf_t {v : Option e_V} {q : Nat} (h : rq_rf v = some q) : v = some (e_R q) := by
  unfold rq_rf at h
  split at h
  · cases h; rfl
  · cases h
noncomputable def rq_topO (old : Option e_O) : e_O := fun g F al st w c K => match al, st with
  | [some (.inr (.inl (some s)))], [] => (match rq_lw w s with
    | some t => (match rq_la w t with
      | some (a, n) => e_fo ((n + 6442450944 - 2147483649) % 4294967296) (fun m => match rq_rf (rq_gv w a n m) with
        | some q => bif Nat.ble q 8191 && (Nat.beq (e_cod (f_tg w q)) 15 && (Nat.ble 3 F.2.1 && Nat.ble 100 F.2.2.1)) then K (.inl (some (e_R q))) w c else r_old old g F al st w c K
        | none => r_old old g F al st w c K)
      | none => r_old old g F al st w c K)
    | none => r_old old g F al st w c K)
  | _, _ => r_old old g F al st w c K
theorem rq_topT {old : Option e_O} (h : ∀ o, old = some o → e_Sn 98 0 o) : e_Sn 98 0 (rq_topO old) := by
  intro g hg F al st w c K hM hk
  have ho := r_oldT h g hg F al st w c K hM
  unfold rq_topO at hk
  split at hk
  · next s =>
    split at hk
    · next t ht =>
      split at hk
      · next a n ha =>
        rw [r_fo] at hk
        generalize hm : (n + 6442450944 - 2147483649) % 4294967296 = m at hk
        split at hk
        · next q hv =>
          cases hc : (Nat.ble q 8191 && (Nat.beq (e_cod (f_tg w q)) 15 && (Nat.ble 3 F.2.1 && Nat.ble 100 F.2.2.1))) with
          | false => rw [hc, cond_false] at hk; exact ho hk
          | true =>
            rw [hc, cond_true] at hk
            obtain ⟨k0, hc⟩ := (Bool.and_eq_true _ _).mp hc
            obtain ⟨k1, hc⟩ := (Bool.and_eq_true _ _).mp hc
            obtain ⟨k2, k3⟩ := (Bool.and_eq_true _ _).mp hc
            rw [f_tg_eq k0] at k1
            obtain ⟨F1, fr, lo, bx⟩ := F
            have hM1 : F1 = 98 := hM
            subst hM1
            obtain ⟨gs, q1, q2⟩ := rq_lw_t ht
            obtain ⟨fs, g1, g2, g3⟩ := rq_la_t ha
            obtain ⟨rs, g4, g5, g6, g7⟩ := rq_gv_t (rq_rf_t hv)
            exact ⟨_, w, c, hk, rq_tOk (Nat.le_of_ble_eq_true k2) (Nat.le_of_ble_eq_true k3) q1 q2 g1 g2 g3 hm g4 g5 g6 g7 (Nat.eq_of_beq_eq_true k1)⟩
        · exact ho hk
      · exact ho hk
    · exact ho hk
  · exact ho hk
noncomputable def rq_f0 (ci : Nat) (x : e_C) : Option Nat := match x with
  | .inl (cj, (.inr (.inl (some t))) :: _) => bif Nat.beq cj ci then some t else none
  | _ => none
theorem rq_f0_t {ci : Nat} {x : e_C} {t : Nat} (h : rq_f0 ci x = some t) : ∃ gs, x = .inl (ci, gs) ∧ e_nth gs 0 = some (e_R t) := by
  unfold rq_f0 at h
  split at h
  · next cj b l =>
    cases hb : Nat.beq cj ci with
    | true =>
      rw [hb, cond_true] at h
      cases h
      obtain rfl := Nat.eq_of_beq_eq_true hb
      exact ⟨_, rfl, rfl⟩
    | false => rw [hb, cond_false] at h; cases h
  · cases h
noncomputable def rq_fw (ci : Nat) (w : e_W) (s : Nat) : Option Nat := bif Nat.ble s 8191 then rq_f0 ci (f_tg w s) else none
theorem rq_fw_t {ci : Nat} {w : e_W} {s t : Nat} (h : rq_fw ci w s = some t) : ∃ gs, e_tget 13 w s = .inl (ci, gs) ∧ e_nth gs 0 = some (e_R t) := by
  unfold rq_fw at h
  cases hb : Nat.ble s 8191 with
  | true => rw [hb, cond_true, f_tg_eq hb] at h; exact rq_f0_t h
  | false => rw [hb, cond_false] at h; cases h
noncomputable def rq_takO (old : Option e_O) : e_O := fun g F al st w c K => match al, st with
  | [some (.inr (.inl (some s))), some (.inl m), none, none, none, none, none], [] => (match rq_fw 2 w s with
    | some u => (match rq_fw 11 w u with
      | some _ => bif Nat.beq m 2147483648 then K (.inl (some (.inl 2147483648))) w c else r_old old g F al st w c K
      | none => r_old old g F al st w c K)
    | none => r_old old g F al st w c K)
  | _, _ => r_old old g F al st w c K
theorem rq_takT {old : Option e_O} (h : ∀ o, old = some o → e_Sn 24 0 o) : e_Sn 24 0 (rq_takO old) := by
  intro g hg F al st w c K hM hk
  have ho := r_oldT h g hg F al st w c K hM
  unfold rq_takO at hk
  split at hk
  · next s m =>
    split at hk
    · next u hu =>
      split at hk
      · next p hp =>
        cases hc : Nat.beq m 2147483648 with
        | false => rw [hc, cond_false] at hk; exact ho hk
        | true =>
          rw [hc, cond_true] at hk
          obtain ⟨F1, fr, lo, bx⟩ := F
          have hM1 : F1 = 24 := hM
          subst hM1
          rw [Nat.eq_of_beq_eq_true hc]
          obtain ⟨fs, g1, g2⟩ := rq_fw_t hu
          obtain ⟨us, g3, g4⟩ := rq_fw_t hp
          exact ⟨_, w, c, hk, rq_kOk g1 g2 g3 g4⟩
      · exact ho hk
    · exact ho hk
  · exact ho hk
end RQ
