/-! THE LAW: its context, its walk -/
section LW
theorem e_kcl {s : State} {args : Array Value} (hts : ∀ w ∈ lw_tbl, w.before args s = true) : ∀ k : Nat, ∃ (c : ClassId) (iS : Nat → Nat), ∀ z, e_cl[k]? = some z → u_Kn s z.1 z.2.1 z.2.2 c iS := by
  intro k
  match k with
  | 0 =>
    obtain ⟨c, i, h⟩ := u_known (C := er_0) (T := et_0) (N := 17) (n := 17) hts ei_0 (hts _ (List.mem_of_getElem? (i := 83) (by decide +kernel)))
    exact ⟨c, i, fun z hz => by cases hz; exact h⟩
  | 1 =>
    obtain ⟨c, i, h⟩ := u_known (C := er_1) (T := et_1) (N := 4) (n := 4) hts ei_1 (hts _ (List.mem_of_getElem? (i := 91) (by decide +kernel)))
    exact ⟨c, i, fun z hz => by cases hz; exact h⟩
  | 2 =>
    obtain ⟨c, i, h⟩ := u_known (C := er_2) (T := et_2) (N := 19) (n := 19) hts ei_2 (hts _ (List.mem_of_getElem? (i := 509) (by decide +kernel)))
    exact ⟨c, i, fun z hz => by cases hz; exact h⟩
  | 3 =>
    obtain ⟨c, i, h⟩ := u_known (C := er_3) (T := et_3) (N := 5) (n := 5) hts ei_3 (hts _ (List.mem_of_getElem? (i := 285) (by decide +kernel)))
    exact ⟨c, i, fun z hz => by cases hz; exact h⟩
  | 4 =>
    obtain ⟨c, i, h⟩ := u_known (C := er_4) (T := et_4) (N := 5) (n := 5) hts ei_4 (hts _ (List.mem_of_getElem? (i := 121) (by decide +kernel)))
    exact ⟨c, i, fun z hz => by cases hz; exact h⟩
  | 5 =>
    obtain ⟨c, i, h⟩ := u_known (C := er_5) (T := et_5) (N := 5) (n := 5) hts ei_5 (hts _ (List.mem_of_getElem? (i := 154) (by decide +kernel)))
    exact ⟨c, i, fun z hz => by cases hz; exact h⟩
  | 6 =>
    obtain ⟨c, i, h⟩ := u_known (C := er_6) (T := et_6) (N := 17) (n := 17) hts ei_6 (hts _ (List.mem_of_getElem? (i := 449) (by decide +kernel)))
    exact ⟨c, i, fun z hz => by cases hz; exact h⟩
  | 7 =>
    obtain ⟨c, i, h⟩ := u_known (C := er_7) (T := et_7) (N := 6) (n := 6) hts ei_7 (hts _ (List.mem_of_getElem? (i := 179) (by decide +kernel)))
    exact ⟨c, i, fun z hz => by cases hz; exact h⟩
  | 8 =>
    obtain ⟨c, i, h⟩ := u_known (C := er_8) (T := et_8) (N := 3) (n := 3) hts ei_8 (hts _ (List.mem_of_getElem? (i := 433) (by decide +kernel)))
    exact ⟨c, i, fun z hz => by cases hz; exact h⟩
  | 9 =>
    obtain ⟨c, i, h⟩ := u_known (C := er_9) (T := et_9) (N := 1) (n := 1) hts ei_9 (hts _ (List.mem_of_getElem? (i := 274) (by decide +kernel)))
    exact ⟨c, i, fun z hz => by cases hz; exact h⟩
  | 10 =>
    obtain ⟨c, i, h⟩ := u_known (C := er_10) (T := et_10) (N := 11) (n := 11) hts ei_10 (hts _ (List.mem_of_getElem? (i := 148) (by decide +kernel)))
    exact ⟨c, i, fun z hz => by cases hz; exact h⟩
  | 11 =>
    obtain ⟨c, i, h⟩ := u_known (C := er_11) (T := et_11) (N := 15) (n := 15) hts ei_11 (hts _ (List.mem_of_getElem? (i := 115) (by decide +kernel)))
    exact ⟨c, i, fun z hz => by cases hz; exact h⟩
  | 12 =>
    obtain ⟨c, i, h⟩ := u_known (C := er_12) (T := et_12) (N := 5) (n := 5) hts ei_12 (hts _ (List.mem_of_getElem? (i := 1637) (by decide +kernel)))
    exact ⟨c, i, fun z hz => by cases hz; exact h⟩
  | 13 =>
    obtain ⟨c, i, h⟩ := u_known (C := er_13) (T := et_13) (N := 3) (n := 3) hts ei_13 (hts _ (List.mem_of_getElem? (i := 2125) (by decide +kernel)))
    exact ⟨c, i, fun z hz => by cases hz; exact h⟩
  | 14 =>
    obtain ⟨c, i, h⟩ := u_known (C := er_14) (T := et_14) (N := 13) (n := 13) hts ei_14 (hts _ (List.mem_of_getElem? (i := 1643) (by decide +kernel)))
    exact ⟨c, i, fun z hz => by cases hz; exact h⟩
  | 15 =>
    obtain ⟨c, i, h⟩ := u_known (C := er_15) (T := et_15) (N := 8) (n := 8) hts ei_15 (hts _ (List.mem_of_getElem? (i := 2011) (by decide +kernel)))
    exact ⟨c, i, fun z hz => by cases hz; exact h⟩
  | 16 =>
    obtain ⟨c, i, h⟩ := u_known (C := er_16) (T := et_16) (N := 5) (n := 5) hts ei_16 (hts _ (List.mem_of_getElem? (i := 2003) (by decide +kernel)))
    exact ⟨c, i, fun z hz => by cases hz; exact h⟩
  | 17 =>
    obtain ⟨c, i, h⟩ := u_known (C := er_17) (T := et_17) (N := 6) (n := 6) hts ei_17 (hts _ (List.mem_of_getElem? (i := 1680) (by decide +kernel)))
    exact ⟨c, i, fun z hz => by cases hz; exact h⟩
  | 18 =>
    obtain ⟨c, i, h⟩ := u_known (C := er_18) (T := et_18) (N := 1) (n := 1) hts ei_18 (hts _ (List.mem_of_getElem? (i := 2999) (by decide +kernel)))
    exact ⟨c, i, fun z hz => by cases hz; exact h⟩
  | 19 =>
    obtain ⟨c, i, h⟩ := u_known (C := er_19) (T := et_19) (N := 3) (n := 3) hts ei_19 (hts _ (List.mem_of_getElem? (i := 1649) (by decide +kernel)))
    exact ⟨c, i, fun z hz => by cases hz; exact h⟩
  | n + 20 => exact ⟨0, fun _ => 0, fun z hz => by rw [List.getElem?_eq_none (by show 20 ≤ n + 20; omega)] at hz; cases hz⟩
theorem e_ovA {args : Array Value} {s : State} {t : FieldType} (h : (Jvm.Cond.arrayOver (.array t)).before args s = true) : ∃ comp c k, s.vm.findClass (FieldType.array t).toString = some comp ∧ s.vm.classes[c]? = some k ∧ k.kind = .array comp (.array t) ∧ s.vm.findClass ("[" ++ (FieldType.array t).toString) = some c := by
  simp only [Jvm.Cond.before, Jvm.Cond.holds, Jvm.Cond.value, beq_iff_eq] at h
  cases hc : s.vm.findClass (FieldType.array t).toString with
  | none => simp [hc] at h
  | some comp =>
    simp only [hc, Option.bind_some, Option.bind_eq_some_iff, Option.map_eq_some_iff] at h
    obtain ⟨c, hi, k, hk, hb⟩ := h
    obtain ⟨hlt, hp, -⟩ := Array.findIdx?_eq_some_iff_getElem.mp hi
    have hkk : s.vm.classes[c] = k := (Array.getElem?_eq_some_iff.mp hk).2
    rw [hkk] at hp
    cases hkind : k.kind with
    | array component ty =>
      rw [hkind] at hb hp
      simp at hb hp
      exact ⟨comp, c, k, rfl, hk, by rw [hkind, hp, hb.1], hb.2⟩
    | _ => rw [hkind] at hb; simp at hb
theorem e_tyl {P : ClassId → FieldType → Prop} : ∀ l : List FieldType, (∀ ty ∈ l, ∃ cA, P cA ty) → ∃ tys : List (ClassId × FieldType), tys.map (·.2) = l ∧ ∀ (k : Nat) (z : ClassId × FieldType), tys[k]? = some z → P z.1 z.2
  | [], _ => ⟨[], rfl, fun k z h => by simp at h⟩
  | ty :: l, h => by
    obtain ⟨cA, h1⟩ := h ty List.mem_cons_self
    obtain ⟨tys, h2, h3⟩ := e_tyl l (fun t ht => h t (List.mem_cons_of_mem _ ht))
    refine ⟨(cA, ty) :: tys, by simp [h2], fun k z hz => ?_⟩
    cases k with
    | zero => cases hz; exact h1
    | succ k => exact h3 k z hz
theorem e_tyP {args : Array Value} {s : State} {t : FieldType} (h : (Jvm.Cond.arrayClass t).before args s = true) (ht : ∀ cA, s.vm.findClass ("[" ++ t.toString) = some cA → va_RA s cA t) : ∃ cA, ArrOfT s cA t ∧ va_RA s cA t := by
  obtain ⟨c, k, comp, h1, h2, h3⟩ := Cond.arrayClass_spec h
  exact ⟨c, fun n z => ⟨fun k h => (by cases h), k, h2, comp, h3⟩, ht c h1⟩
theorem e_tyO {args : Array Value} {s : State} {C : String} (h : (Jvm.Cond.arrayOver (.object C)).before args s = true) : ∃ cA, ArrOfT s cA (.object C) ∧ va_RA s cA (.object C) := by
  obtain ⟨comp, c, k, h1, -, h2, h3, h4⟩ := Cond.arrayOver_spec h
  exact ⟨c, fun n z => ⟨fun k h => (by cases h), k, h2, comp, h3⟩, k, comp, h2, h3, h1, h4⟩
theorem e_tyA {args : Array Value} {s : State} {t : FieldType} (h : (Jvm.Cond.arrayOver (.array t)).before args s = true) : ∃ cA, ArrOfT s cA (.array t) ∧ va_RA s cA (.array t) := by
  obtain ⟨comp, c, k, h1, h2, h3, h4⟩ := e_ovA h
  exact ⟨c, fun n z => ⟨fun k h => (by cases h), k, h2, comp, h3⟩, h4⟩
theorem e_kty {s : State} {args : Array Value} (hts : ∀ w ∈ lw_tbl, w.before args s = true) : ∃ tys : List (ClassId × FieldType), tys.map (·.2) = e_kt ∧ ∀ (k : Nat) (z : ClassId × FieldType), tys[k]? = some z → ArrOfT s z.1 z.2 ∧ va_RA s z.1 z.2 := by
  refine e_tyl (P := fun c t => ArrOfT s c t ∧ va_RA s c t) e_kt ?_
  intro ty h
  simp only [e_kt, List.mem_cons, List.not_mem_nil, or_false] at h
  rcases h with rfl | rfl | rfl | rfl | rfl | rfl | rfl | rfl
  · exact e_tyP (hts _ (List.mem_of_getElem? (i := 113) (by decide +kernel))) (fun _ h => h)
  · exact e_tyP (hts _ (List.mem_of_getElem? (i := 1717) (by decide +kernel))) (fun _ h => h)
  · exact e_tyP (hts _ (List.mem_of_getElem? (i := 177) (by decide +kernel))) (fun _ h => h)
  · exact e_tyO (hts _ (List.mem_of_getElem? (i := 1782) (by decide +kernel)))
  · exact e_tyO (hts _ (List.mem_of_getElem? (i := 272) (by decide +kernel)))
  · exact e_tyO (hts _ (List.mem_of_getElem? (i := 270) (by decide +kernel)))
  · exact e_tyO (hts _ (List.mem_of_getElem? (i := 1678) (by decide +kernel)))
  · exact e_tyA (hts _ (List.mem_of_getElem? (i := 2308) (by decide +kernel)))
theorem e_nw0 {args : Array Value} {s : State} (hts : ∀ w ∈ lw_tbl, w.before args s = true) : ∀ w ∈ e_nw, va_Nw w s := by
  intro w hw
  obtain ⟨h1, hk⟩ := List.mem_filter.mp hw
  have h := hts w h1
  clear hw h1
  unfold e_nk at hk
  split at hk
  · exact va_Nw.of rfl h
  · exact va_Nw.of rfl h
  · exact va_Nw.of rfl h
  · exact va_Nw.of rfl h
  · exact h
  · exact over_moved (Vm.Alike.refl _) h
  · exact va_Nw.of rfl h
  · exact va_Nw.of rfl h
  · cases hk
theorem e_sr0 : ∀ z ∈ e_sr, Jvm.Cond.stringRef z.1 z.2.1 z.2.2 ∈ lw_tbl := by
  unfold e_sr
  exact List.forall_mem_cons.mpr ⟨(List.mem_of_getElem? (i := 1471) (by decide +kernel)), List.forall_mem_cons.mpr ⟨(List.mem_of_getElem? (i := 1481) (by decide +kernel)), List.forall_mem_cons.mpr ⟨(List.mem_of_getElem? (i := 1506) (by decide +kernel)), List.forall_mem_cons.mpr ⟨(List.mem_of_getElem? (i := 1353) (by decide +kernel)), List.forall_mem_cons.mpr ⟨(List.mem_of_getElem? (i := 1354) (by decide +kernel)), List.forall_mem_cons.mpr ⟨(List.mem_of_getElem? (i := 1361) (by decide +kernel)), List.forall_mem_cons.mpr ⟨(List.mem_of_getElem? (i := 1379) (by decide +kernel)), List.forall_mem_cons.mpr ⟨(List.mem_of_getElem? (i := 1388) (by decide +kernel)), List.forall_mem_cons.mpr ⟨(List.mem_of_getElem? (i := 1397) (by decide +kernel)), List.forall_mem_cons.mpr ⟨(List.mem_of_getElem? (i := 1402) (by decide +kernel)), List.forall_mem_cons.mpr ⟨(List.mem_of_getElem? (i := 1403) (by decide +kernel)), List.forall_mem_cons.mpr ⟨(List.mem_of_getElem? (i := 1412) (by decide +kernel)), List.forall_mem_cons.mpr ⟨(List.mem_of_getElem? (i := 1417) (by decide +kernel)), List.forall_mem_cons.mpr ⟨(List.mem_of_getElem? (i := 1422) (by decide +kernel)), List.forall_mem_cons.mpr ⟨(List.mem_of_getElem? (i := 1309) (by decide +kernel)), List.forall_mem_cons.mpr ⟨(List.mem_of_getElem? (i := 1234) (by decide +kernel)), List.forall_mem_cons.mpr ⟨(List.mem_of_getElem? (i := 1570) (by decide +kernel)), List.forall_mem_cons.mpr ⟨(List.mem_of_getElem? (i := 1578) (by decide +kernel)), List.forall_mem_cons.mpr ⟨(List.mem_of_getElem? (i := 1432) (by decide +kernel)), List.forall_mem_cons.mpr ⟨(List.mem_of_getElem? (i := 1433) (by decide +kernel)), List.forall_mem_cons.mpr ⟨(List.mem_of_getElem? (i := 1438) (by decide +kernel)), List.forall_mem_cons.mpr ⟨(List.mem_of_getElem? (i := 1443) (by decide +kernel)), List.forall_mem_cons.mpr ⟨(List.mem_of_getElem? (i := 1613) (by decide +kernel)), List.forall_mem_cons.mpr ⟨(List.mem_of_getElem? (i := 1457) (by decide +kernel)), fun _ h => absurd h List.not_mem_nil⟩⟩⟩⟩⟩⟩⟩⟩⟩⟩⟩⟩⟩⟩⟩⟩⟩⟩⟩⟩⟩⟩⟩⟩
theorem e_sr1 : ∀ z ∈ e_sr, z.1 = "Plateroomprinter" := by decide
theorem e_nc0 {args : Array Value} {s : State} (hgv : (Jvm.Cond.and given_1 narrow_1).before args s = true) : ∀ z ∈ e_nc, va_Nc z.1 z.2 s := by
  unfold e_nc
  exact List.forall_mem_cons.mpr ⟨va_Nc.of (flat_of_before _ hgv _ (List.mem_of_getElem? (i := 642) (by decide +kernel))), List.forall_mem_cons.mpr ⟨va_Nc.of (flat_of_before _ hgv _ (List.mem_of_getElem? (i := 670) (by decide +kernel))), List.forall_mem_cons.mpr ⟨va_Nc.of (flat_of_before _ hgv _ (List.mem_of_getElem? (i := 614) (by decide +kernel))), List.forall_mem_cons.mpr ⟨va_Nc.of (flat_of_before _ hgv _ (List.mem_of_getElem? (i := 671) (by decide +kernel))), List.forall_mem_cons.mpr ⟨va_Nc.of (flat_of_before _ hgv _ (List.mem_of_getElem? (i := 624) (by decide +kernel))), List.forall_mem_cons.mpr ⟨va_Nc.of (flat_of_before _ hgv _ (List.mem_of_getElem? (i := 652) (by decide +kernel))), fun _ h => absurd h List.not_mem_nil⟩⟩⟩⟩⟩⟩
theorem e_fw0 {args : Array Value} {s : State} (hts : ∀ w ∈ lw_tbl, w.before args s = true) : ∀ q ∈ e_fw, va_Fw q.1 q.2.1 q.2.2 s := by
  unfold e_fw
  intro q hq
  obtain rfl := List.mem_singleton.mp hq
  exact va_Fw.of (hts _ (List.mem_of_getElem? (i := 2748) (by decide +kernel))) (hts _ (List.mem_of_getElem? (i := 2747) (by decide +kernel))) (hts _ (List.mem_of_getElem? (i := 2753) (by decide +kernel))) (hts _ (List.mem_of_getElem? (i := 2751) (by decide +kernel))) (hts _ (List.mem_of_getElem? (i := 2749) (by decide +kernel)))
theorem e_eqv {args : Array Value} {s : State} {t : Term} {n : Int32} (h : (Jvm.Cond.eq t (.int n)).before args s = true) : t.eval args s none [] s = some (.int n) := va_eqI (by simpa [Jvm.Cond.before, Jvm.Cond.holds] using h) rfl
noncomputable def e_px (l : List Nat) (j : Nat) : Value := match e_nth l j with
  | some m => .int (e_i m)
  | none => .null
theorem e_st_OPERANDS {args : Array Value} {s : State} (hgv : (Jvm.Cond.and given_1 narrow_1).before args s = true) : ∃ t : Nat, (Term.static "Plateroomprinter$Engine" "OPERANDS" "[I").eval args s none [] s = some (.ref t) ∧ va_T .int t 53 (e_px [2147483665, 2147483665, 2147483665, 2147483665, 2147483665, 2147483649, 2147483665, 2147483665, 2147483649, 2147483652, 2147483652, 2147483716, 2147483649, 2147483648, 2147483684, 2147483651, 2147483667, 2147483955, 2147483667, 2147488019, 2147483648, 2147483648, 2147483648, 2147483665, 2147488017, 2147483649, 2147483665, 2147483648, 2147483665, 2147483665, 2147483665, 2147483665, 2148602129, 2147483648, 2147488017, 2147483648, 2147483648, 2147483648, 2147483648, 2147483648, 2147483648, 2147488017, 2147483649, 2147483649, 2147483649, 2147483649, 2147483649, 2147483649, 2147483665, 2147483649, 2147483649, 2147483921, 2147483648]) (e_A0 s.heap.size) s s.heap := by
  refine va_Tof (tm := (.static "Plateroomprinter$Engine" "OPERANDS" "[I")) (by decide) (flat_of_before _ hgv _ (List.mem_of_getElem? (i := 5) (by decide +kernel))) (e_eqv (n := 53) (flat_of_before _ hgv _ (List.mem_of_getElem? (i := 6) (by decide +kernel)))) (fun j hj => ?_) (fun a h => Nat.not_le.mpr h)
  match j, hj with
  | 0, _ => exact (e_eqv (n := 17) (flat_of_before _ hgv _ (List.mem_of_getElem? (i := 7) (by decide +kernel)))).trans (by decide +kernel)
  | 1, _ => exact (e_eqv (n := 17) (flat_of_before _ hgv _ (List.mem_of_getElem? (i := 8) (by decide +kernel)))).trans (by decide +kernel)
  | 2, _ => exact (e_eqv (n := 17) (flat_of_before _ hgv _ (List.mem_of_getElem? (i := 9) (by decide +kernel)))).trans (by decide +kernel)
  | 3, _ => exact (e_eqv (n := 17) (flat_of_before _ hgv _ (List.mem_of_getElem? (i := 10) (by decide +kernel)))).trans (by decide +kernel)
  | 4, _ => exact (e_eqv (n := 17) (flat_of_before _ hgv _ (List.mem_of_getElem? (i := 11) (by decide +kernel)))).trans (by decide +kernel)
  | 5, _ => exact (e_eqv (n := 1) (flat_of_before _ hgv _ (List.mem_of_getElem? (i := 12) (by decide +kernel)))).trans (by decide +kernel)
  | 6, _ => exact (e_eqv (n := 17) (flat_of_before _ hgv _ (List.mem_of_getElem? (i := 13) (by decide +kernel)))).trans (by decide +kernel)
  | 7, _ => exact (e_eqv (n := 17) (flat_of_before _ hgv _ (List.mem_of_getElem? (i := 14) (by decide +kernel)))).trans (by decide +kernel)
  | 8, _ => exact (e_eqv (n := 1) (flat_of_before _ hgv _ (List.mem_of_getElem? (i := 15) (by decide +kernel)))).trans (by decide +kernel)
  | 9, _ => exact (e_eqv (n := 4) (flat_of_before _ hgv _ (List.mem_of_getElem? (i := 16) (by decide +kernel)))).trans (by decide +kernel)
  | 10, _ => exact (e_eqv (n := 4) (flat_of_before _ hgv _ (List.mem_of_getElem? (i := 17) (by decide +kernel)))).trans (by decide +kernel)
  | 11, _ => exact (e_eqv (n := 68) (flat_of_before _ hgv _ (List.mem_of_getElem? (i := 18) (by decide +kernel)))).trans (by decide +kernel)
  | 12, _ => exact (e_eqv (n := 1) (flat_of_before _ hgv _ (List.mem_of_getElem? (i := 19) (by decide +kernel)))).trans (by decide +kernel)
  | 13, _ => exact (e_eqv (n := 0) (flat_of_before _ hgv _ (List.mem_of_getElem? (i := 20) (by decide +kernel)))).trans (by decide +kernel)
  | 14, _ => exact (e_eqv (n := 36) (flat_of_before _ hgv _ (List.mem_of_getElem? (i := 21) (by decide +kernel)))).trans (by decide +kernel)
  | 15, _ => exact (e_eqv (n := 3) (flat_of_before _ hgv _ (List.mem_of_getElem? (i := 22) (by decide +kernel)))).trans (by decide +kernel)
  | 16, _ => exact (e_eqv (n := 19) (flat_of_before _ hgv _ (List.mem_of_getElem? (i := 23) (by decide +kernel)))).trans (by decide +kernel)
  | 17, _ => exact (e_eqv (n := 307) (flat_of_before _ hgv _ (List.mem_of_getElem? (i := 24) (by decide +kernel)))).trans (by decide +kernel)
  | 18, _ => exact (e_eqv (n := 19) (flat_of_before _ hgv _ (List.mem_of_getElem? (i := 25) (by decide +kernel)))).trans (by decide +kernel)
  | 19, _ => exact (e_eqv (n := 4371) (flat_of_before _ hgv _ (List.mem_of_getElem? (i := 26) (by decide +kernel)))).trans (by decide +kernel)
  | 20, _ => exact (e_eqv (n := 0) (flat_of_before _ hgv _ (List.mem_of_getElem? (i := 27) (by decide +kernel)))).trans (by decide +kernel)
  | 21, _ => exact (e_eqv (n := 0) (flat_of_before _ hgv _ (List.mem_of_getElem? (i := 28) (by decide +kernel)))).trans (by decide +kernel)
  | 22, _ => exact (e_eqv (n := 0) (flat_of_before _ hgv _ (List.mem_of_getElem? (i := 29) (by decide +kernel)))).trans (by decide +kernel)
  | 23, _ => exact (e_eqv (n := 17) (flat_of_before _ hgv _ (List.mem_of_getElem? (i := 30) (by decide +kernel)))).trans (by decide +kernel)
  | 24, _ => exact (e_eqv (n := 4369) (flat_of_before _ hgv _ (List.mem_of_getElem? (i := 31) (by decide +kernel)))).trans (by decide +kernel)
  | 25, _ => exact (e_eqv (n := 1) (flat_of_before _ hgv _ (List.mem_of_getElem? (i := 32) (by decide +kernel)))).trans (by decide +kernel)
  | 26, _ => exact (e_eqv (n := 17) (flat_of_before _ hgv _ (List.mem_of_getElem? (i := 33) (by decide +kernel)))).trans (by decide +kernel)
  | 27, _ => exact (e_eqv (n := 0) (flat_of_before _ hgv _ (List.mem_of_getElem? (i := 34) (by decide +kernel)))).trans (by decide +kernel)
  | 28, _ => exact (e_eqv (n := 17) (flat_of_before _ hgv _ (List.mem_of_getElem? (i := 35) (by decide +kernel)))).trans (by decide +kernel)
  | 29, _ => exact (e_eqv (n := 17) (flat_of_before _ hgv _ (List.mem_of_getElem? (i := 36) (by decide +kernel)))).trans (by decide +kernel)
  | 30, _ => exact (e_eqv (n := 17) (flat_of_before _ hgv _ (List.mem_of_getElem? (i := 37) (by decide +kernel)))).trans (by decide +kernel)
  | 31, _ => exact (e_eqv (n := 17) (flat_of_before _ hgv _ (List.mem_of_getElem? (i := 38) (by decide +kernel)))).trans (by decide +kernel)
  | 32, _ => exact (e_eqv (n := 1118481) (flat_of_before _ hgv _ (List.mem_of_getElem? (i := 39) (by decide +kernel)))).trans (by decide +kernel)
  | 33, _ => exact (e_eqv (n := 0) (flat_of_before _ hgv _ (List.mem_of_getElem? (i := 40) (by decide +kernel)))).trans (by decide +kernel)
  | 34, _ => exact (e_eqv (n := 4369) (flat_of_before _ hgv _ (List.mem_of_getElem? (i := 41) (by decide +kernel)))).trans (by decide +kernel)
  | 35, _ => exact (e_eqv (n := 0) (flat_of_before _ hgv _ (List.mem_of_getElem? (i := 42) (by decide +kernel)))).trans (by decide +kernel)
  | 36, _ => exact (e_eqv (n := 0) (flat_of_before _ hgv _ (List.mem_of_getElem? (i := 43) (by decide +kernel)))).trans (by decide +kernel)
  | 37, _ => exact (e_eqv (n := 0) (flat_of_before _ hgv _ (List.mem_of_getElem? (i := 44) (by decide +kernel)))).trans (by decide +kernel)
  | 38, _ => exact (e_eqv (n := 0) (flat_of_before _ hgv _ (List.mem_of_getElem? (i := 45) (by decide +kernel)))).trans (by decide +kernel)
  | 39, _ => exact (e_eqv (n := 0) (flat_of_before _ hgv _ (List.mem_of_getElem? (i := 46) (by decide +kernel)))).trans (by decide +kernel)
  | 40, _ => exact (e_eqv (n := 0) (flat_of_before _ hgv _ (List.mem_of_getElem? (i := 47) (by decide +kernel)))).trans (by decide +kernel)
  | 41, _ => exact (e_eqv (n := 4369) (flat_of_before _ hgv _ (List.mem_of_getElem? (i := 48) (by decide +kernel)))).trans (by decide +kernel)
  | 42, _ => exact (e_eqv (n := 1) (flat_of_before _ hgv _ (List.mem_of_getElem? (i := 49) (by decide +kernel)))).trans (by decide +kernel)
  | 43, _ => exact (e_eqv (n := 1) (flat_of_before _ hgv _ (List.mem_of_getElem? (i := 50) (by decide +kernel)))).trans (by decide +kernel)
  | 44, _ => exact (e_eqv (n := 1) (flat_of_before _ hgv _ (List.mem_of_getElem? (i := 51) (by decide +kernel)))).trans (by decide +kernel)
  | 45, _ => exact (e_eqv (n := 1) (flat_of_before _ hgv _ (List.mem_of_getElem? (i := 52) (by decide +kernel)))).trans (by decide +kernel)
  | 46, _ => exact (e_eqv (n := 1) (flat_of_before _ hgv _ (List.mem_of_getElem? (i := 53) (by decide +kernel)))).trans (by decide +kernel)
  | 47, _ => exact (e_eqv (n := 1) (flat_of_before _ hgv _ (List.mem_of_getElem? (i := 54) (by decide +kernel)))).trans (by decide +kernel)
  | 48, _ => exact (e_eqv (n := 17) (flat_of_before _ hgv _ (List.mem_of_getElem? (i := 55) (by decide +kernel)))).trans (by decide +kernel)
  | 49, _ => exact (e_eqv (n := 1) (flat_of_before _ hgv _ (List.mem_of_getElem? (i := 56) (by decide +kernel)))).trans (by decide +kernel)
  | 50, _ => exact (e_eqv (n := 1) (flat_of_before _ hgv _ (List.mem_of_getElem? (i := 57) (by decide +kernel)))).trans (by decide +kernel)
  | 51, _ => exact (e_eqv (n := 273) (flat_of_before _ hgv _ (List.mem_of_getElem? (i := 58) (by decide +kernel)))).trans (by decide +kernel)
  | 52, _ => exact (e_eqv (n := 0) (flat_of_before _ hgv _ (List.mem_of_getElem? (i := 59) (by decide +kernel)))).trans (by decide +kernel)
  | n + 53, hj => exact absurd hj (by omega)
theorem e_st_PAGE_YS {args : Array Value} {s : State} (hgv : (Jvm.Cond.and given_1 narrow_1).before args s = true) : ∃ t : Nat, (Term.static "Plateroomprinter" "PAGE_YS" "[I").eval args s none [] s = some (.ref t) ∧ va_T .int t 4 (e_px [2147483648, 2147483648, 2147484160, 2147484160]) (e_A0 s.heap.size) s s.heap := by
  refine va_Tof (tm := (.static "Plateroomprinter" "PAGE_YS" "[I")) (by decide) (flat_of_before _ hgv _ (List.mem_of_getElem? (i := 135) (by decide +kernel))) (e_eqv (n := 4) (flat_of_before _ hgv _ (List.mem_of_getElem? (i := 136) (by decide +kernel)))) (fun j hj => ?_) (fun a h => Nat.not_le.mpr h)
  match j, hj with
  | 0, _ => exact (e_eqv (n := 0) (flat_of_before _ hgv _ (List.mem_of_getElem? (i := 137) (by decide +kernel)))).trans (by decide +kernel)
  | 1, _ => exact (e_eqv (n := 0) (flat_of_before _ hgv _ (List.mem_of_getElem? (i := 138) (by decide +kernel)))).trans (by decide +kernel)
  | 2, _ => exact (e_eqv (n := 512) (flat_of_before _ hgv _ (List.mem_of_getElem? (i := 139) (by decide +kernel)))).trans (by decide +kernel)
  | 3, _ => exact (e_eqv (n := 512) (flat_of_before _ hgv _ (List.mem_of_getElem? (i := 140) (by decide +kernel)))).trans (by decide +kernel)
  | n + 4, hj => exact absurd hj (by omega)
theorem e_st_D {args : Array Value} {s : State} (hgv : (Jvm.Cond.and given_1 narrow_1).before args s = true) : ∃ t : Nat, (Term.static "java/util/ArrayList" "DEFAULTCAPACITY_EMPTY_ELEMENTDATA" "[Ljava/lang/Object;").eval args s none [] s = some (.ref t) ∧ va_T (.object "java/lang/Object") t 0 (fun _ => .null) (e_A0 s.heap.size) s s.heap :=
  va_Tof (tm := .static "java/util/ArrayList" "DEFAULTCAPACITY_EMPTY_ELEMENTDATA" "[Ljava/lang/Object;") (by decide) (flat_of_before _ hgv _ (List.mem_of_getElem? (i := 144) (by decide +kernel))) (e_eqv (n := 0) (flat_of_before _ hgv _ (List.mem_of_getElem? (i := 146) (by decide +kernel)))) (fun j hj => absurd hj (Nat.not_lt_zero j)) (fun a h => Nat.not_le.mpr h)
theorem e_st_I {args : Array Value} {s : State} (hgv : (Jvm.Cond.and given_1 narrow_1).before args s = true) : ∃ (adI : Nat → Nat) (t : Nat), (Term.static "java/lang/Integer$IntegerCache" "cache" "[Ljava/lang/Integer;").eval args s none [] s = some (.ref t) ∧ vb_C adI (e_A0 s.heap.size) s s.heap ∧ va_T (.object "java/lang/Integer") t 256 (fun j => .ref (adI j)) (e_A0 s.heap.size) s s.heap := by
  have hlen : (Term.length (.static "java/lang/Integer$IntegerCache" "cache" "[Ljava/lang/Integer;")).eval args s none [] s = some (.int (Int32.ofNat 256)) := e_eqv (n := 256) (flat_of_before _ hgv _ (List.mem_of_getElem? (i := 596) (by decide +kernel)))
  obtain ⟨adI, h1, h2⟩ := vb_Cof (A := e_A0 s.heap.size) (st := .static "java/lang/Integer$IntegerCache" "cache" "[Ljava/lang/Integer;") rfl hlen (flat_of_before _ hgv _ (List.mem_of_getElem? (i := 597) (by decide +kernel))) (fun a h => Nat.not_le.mpr h)
  obtain ⟨t, h3, h4⟩ := va_Tof (tm := .static "java/lang/Integer$IntegerCache" "cache" "[Ljava/lang/Integer;") (ty := .object "java/lang/Integer") (N := 256) (f := fun j => .ref (adI j)) (A := e_A0 s.heap.size) (by decide) (flat_of_before _ hgv _ (List.mem_of_getElem? (i := 595) (by decide +kernel))) hlen h2 (fun a h => Nat.not_le.mpr h)
  exact ⟨adI, t, h3, h1, h4⟩
theorem e_px_rat {ad : Nat → Nat} {l : List Nat} (hl : ∀ m ∈ l, m < 4294967296) : ∀ (rs : List (Nat × e_V)) (n : Nat), (∀ j, j < n → e_rat rs j = (e_nth l j).map (fun m => (.inl m : e_V))) → e_rlen rs = n → (∀ j, n ≤ j → e_rat rs j = none) → ∀ (j : Nat) (v : e_V), e_rat rs j = some v → e_rel ad [] v (e_px l j) := by
  intro rs n h1 _ h3 j v hv
  by_cases hj : j < n
  · rw [h1 j hj] at hv
    unfold e_px
    cases hn : e_nth l j with
    | none => rw [hn] at hv; cases hv
    | some m =>
      rw [hn] at hv
      cases hv
      rw [e_nth_eq] at hn
      exact ⟨hl m (List.mem_of_getElem? hn), rfl⟩
  · rw [h3 j (by omega)] at hv
    cases hv
theorem e_rat_none : ∀ (rs : List (Nat × e_V)) (j : Nat), e_rlen rs ≤ j → e_rat rs j = none := by
  intro rs
  unfold e_rat
  induction rs with
  | nil => intro j _; rfl
  | cons a l ih =>
    obtain ⟨n, v⟩ := a
    intro j hj
    have hj2 : n + e_rlen l ≤ j := hj
    unfold e_rget
    have hb : Nat.blt j n = false := by
      cases hb : Nat.blt j n with
      | false => rfl
      | true =>
        have : j < n := Nat.le_of_ble_eq_true hb
        omega
    rw [hb, cond_false]
    exact ih (j - n) (by omega)
theorem e_rat_1 {v : e_V} {l : List (Nat × e_V)} (j : Nat) : e_rat ((1, v) :: l) (j + 1) = e_rat l j := by
  unfold e_rat
  rw [e_rget]
  have hb : Nat.blt (j + 1) 1 = false := by
    cases hb : Nat.blt (j + 1) 1 with
    | false => rfl
    | true =>
      have : j + 1 < 1 := Nat.le_of_ble_eq_true hb
      omega
  rw [hb, cond_false, Nat.add_sub_cancel]
theorem e_rat_0 {v : e_V} {l : List (Nat × e_V)} : e_rat ((1, v) :: l) 0 = some v := rfl
/-- the box fits the script -/
noncomputable def e_Fit (bx : List (Nat × e_V)) (L : Nat) (xs : Nat → Int32) : Prop := e_rlen bx = L ∧ ∀ (j : Nat) (v : e_V), e_rat bx j = some v → ∀ ad, e_rel ad [] v (.int (xs j))
/-! THE CLAIM OUT OF ONE WALK OF THE LAW'S BODY. Your part is whole_start (and what it stands on); all else here is the same for every law, but numbers. -/
noncomputable def R_law : String := "PlateroomprinterLaw"
noncomputable def lw_P (b : Addr) (xs : List Int32) (args : Array Value) (s : State) : Prop := args = #[.ref b] ∧ s.IntsAt b xs ∧ xs.length ≤ 3584 ∧ (Jvm.Cond.and given_1 narrow_1).before args s = true
noncomputable def lw_Q (_ : Array Value) (s : State) (o : Outcome) (t : State) : Prop := o = .returned (some (.int 1)) ∧ Framed s o t [] 80164 8855614
noncomputable def lw_Z (below : List Frame) (a : Array Value) (s : State) : State → Prop := fun t => ∃ o, t.status = .running ∧ Ended t below o ∧ lw_Q a s o t
/-- the law's own end, with 1 on the stack, nothing written that was there before, its room as the claim has it -/
theorem lw_ret {p : Program} {l : Launch} {e : Env} {s : State} {m : MethodId} {below : List Frame} {meth : Method} {c : Code} {b : Nat} (hx : p.tables.exec = Jvm.exec) (hb : c.code = code) (hr : meth.sig.returnType = ret) (hlocks : meth.locks = false) {pc : Nat} {H : Heap} {ls : Array Slot} (hdg : decode code pc = .ok (.ireturn, 1)) : W p l e room_1 s m #[Value.ref b] below meth c H [] 80164 8855614 (lw_Z below #[Value.ref b] s) (F0 m pc ls [.int 1]) := by
  intro T hT X
  obtain ⟨fs, hret, hrun, hended, hW, hframe⟩ := X.leave (v := some (.int 1)) (hlocks := hlocks) (fun h => by rw [hr] at h; cases h)
  have hmeth' : T.vm.method? m = some meth := X.method'
  refine ⟨T.setFrames fs, ?_, .returned (some (.int 1)), hrun, hended, rfl, ⟨_, rfl⟩, hW, hframe⟩
  jvm_step X.here [X.here.top, hx, hb, hdg, hmeth', hr, ret, narrow_b1]
  (try refine ⟨rfl, ?_⟩); (try refine ⟨rfl, ?_⟩)
  first | (intro acts; rw [hret _ acts rfl rfl rfl]) | rw [hret _ _ rfl rfl rfl]
  exact Steps.refl _
/-- what holds at the law's entry: the machine, the code, the tables' words (any of lw_tbl by 'hts w (by decide +kernel)'), the script of L ints xs at the cell b, what the Statement gives of the start (any of its parts by flat_of_before) -/
noncomputable def lw_At (p : Program) (s : State) (m : MethodId) (meth : Method) (c : Code) (b L : Nat) (xs : Nat → Int32) : Prop :=
  p.tables.exec = Jvm.exec ∧ c.code = code ∧ meth.sig.returnType = ret ∧ c.maxLocals = 7 ∧ s.vm.findClass R_law = some m.cls ∧ (∀ w ∈ lw_tbl, w.before #[Value.ref b] s = true) ∧ va_X b L xs s s.heap ∧ b < s.heap.size ∧ meth.locks = false ∧ (Jvm.Cond.and given_1 narrow_1).before #[Value.ref b] s = true ∧ meth.name = "law" ∧ e_Et x c

theorem e_ctx {p : Program} {s : State} {m : MethodId} {meth : Method} {c : Code} (l : Launch) (hflags : l.flags = flags0) {b L : Nat} {xs : Nat → Int32} (C0 : lw_At p s m meth c b L xs) : ∃ (ad : Nat → Nat) (D : va_G) (tys : List (ClassId × FieldType)), ad 0 = b ∧ ∀ bx, e_Fit bx L xs → e_Cx (e_fl bx) p l s m #[Value.ref b] meth c ad D tys s.heap.size 7 := by
  obtain ⟨hx, hb, hr, hml, hown, hts, hX, hbl, hlocks, hgv, hnm, het⟩ := C0
  obtain ⟨dC, hC⟩ := Classical.axiomOfChoice (e_kcl hts)
  obtain ⟨dI, hCI⟩ := Classical.axiomOfChoice hC
  obtain ⟨tys, hty, htys⟩ := e_kty hts
  obtain ⟨t1, h1, hT1⟩ := e_st_OPERANDS hgv
  obtain ⟨t2, h2, hT2⟩ := e_st_PAGE_YS hgv
  obtain ⟨t3, h3, hT3⟩ := e_st_D hgv
  obtain ⟨adI, t4, h4, hI, hT4⟩ := e_st_I hgv
  obtain ⟨mi, hmi⟩ := va_Mi.of (C := "[Ljava/lang/Object;") (flat_of_before _ hgv _ (List.mem_of_getElem? (i := 797) (by decide +kernel)))
  have hA : ∀ a : Nat, a < s.heap.size → ¬ e_A0 s.heap.size a := fun a h => Nat.not_le.mpr h
  have hX0 : va_T .int b L (fun j => .int (xs j)) (e_A0 s.heap.size) s s.heap := by
    obtain ⟨scr, g1, g2, g3, g4, g5⟩ := hX
    exact ⟨scr, g1, g2, g3, by rw [g4]; exact Nat.le_refl _, by rw [g4], g5, hA b hbl⟩
  refine ⟨fun k => match k with
    | 0 => b
    | 1 => t1
    | 2 => t2
    | 3 => t3
    | j + 4 => if j < 256 then adI j else if j = 256 then t4 else mi, (dC, dI), tys, rfl, fun bx hbx => ⟨hflags, hx, hlocks, fun w hw => hts w (List.mem_filter.mp hw).1, ⟨⟨fun k z hz => hCI k z hz, htys⟩, hty, e_nw0 hts, ?_, e_nc0 hgv, e_fw0 hts⟩, Nat.le_refl _, ⟨?_, ?_, ?_, ?_, ?_, ?_, ?_, hmi⟩, (⟨"PlateroomprinterLaw", "law", "([I)Z"⟩, code, 7, some .boolean), rfl, hb, hml, rfl, hown, hr, hnm, het⟩⟩
  · intro z hz
    obtain ⟨_, _, _, sa, -, -, -, -, -, hev⟩ := Cond.stringRef_spec (by rw [e_sr1 z hz]; exact (hCI 0 _ rfl).2.1) (hts _ (e_sr0 z hz))
    exact ⟨sa, vk_R.of (hts _ (e_sr0 z hz)) hev⟩
  · intro k hk
    match k, hk with
    | 0, _ => exact ⟨.int, _, fun _ => rfl, by rw [show e_rlen (e_fc e_fcs (e_fl bx) 0) = L from hbx.1]; exact hX0, fun j v hv => hbx.2 j v hv _⟩
    | 1, _ => exact ⟨.int, _, fun _ => rfl, hT1, fun j v hv => e_px_rat (by decide +kernel) (e_fc e_fcs (e_fl bx) 1) 53 (fun j hj => match j, hj with
      | 0, _ => rfl
      | 1, _ => rfl
      | 2, _ => rfl
      | 3, _ => rfl
      | 4, _ => rfl
      | 5, _ => rfl
      | 6, _ => rfl
      | 7, _ => rfl
      | 8, _ => rfl
      | 9, _ => rfl
      | 10, _ => rfl
      | 11, _ => rfl
      | 12, _ => rfl
      | 13, _ => rfl
      | 14, _ => rfl
      | 15, _ => rfl
      | 16, _ => rfl
      | 17, _ => rfl
      | 18, _ => rfl
      | 19, _ => rfl
      | 20, _ => rfl
      | 21, _ => rfl
      | 22, _ => rfl
      | 23, _ => rfl
      | 24, _ => rfl
      | 25, _ => rfl
      | 26, _ => rfl
      | 27, _ => rfl
      | 28, _ => rfl
      | 29, _ => rfl
      | 30, _ => rfl
      | 31, _ => rfl
      | 32, _ => rfl
      | 33, _ => rfl
      | 34, _ => rfl
      | 35, _ => rfl
      | 36, _ => rfl
      | 37, _ => rfl
      | 38, _ => rfl
      | 39, _ => rfl
      | 40, _ => rfl
      | 41, _ => rfl
      | 42, _ => rfl
      | 43, _ => rfl
      | 44, _ => rfl
      | 45, _ => rfl
      | 46, _ => rfl
      | 47, _ => rfl
      | 48, _ => rfl
      | 49, _ => rfl
      | 50, _ => rfl
      | 51, _ => rfl
      | 52, _ => rfl
      | n + 53, hj => absurd hj (by omega)) rfl (fun j hj => e_rat_none (e_fc e_fcs (e_fl bx) 1) j hj) j v hv⟩
    | 2, _ => exact ⟨.int, _, fun _ => rfl, hT2, fun j v hv => e_px_rat (by decide) (e_fc e_fcs (e_fl bx) 2) 4 (fun j hj => by rcases (show j = 0 ∨ j = 1 ∨ j = 2 ∨ j = 3 by omega) with rfl | rfl | rfl | rfl <;> rfl) rfl (fun j hj => e_rat_none (e_fc e_fcs (e_fl bx) 2) j hj) j v hv⟩
    | 3, _ => exact ⟨_, _, fun h => absurd h (by decide), hT3, fun j v hv => by cases hv⟩
    | n + 4, hk => exact absurd hk (by show ¬ n + 4 ≤ 3; omega)
  · intro z hz
    simp only [e_sv, List.mem_cons, List.not_mem_nil, or_false] at hz
    rcases hz with rfl | rfl | rfl | rfl
    · exact va_Zof (hts _ (List.mem_of_getElem? (i := 754) (by decide +kernel))) (hts _ (List.mem_of_getElem? (i := 48) (by decide +kernel))) h1 hA
    · exact va_Zof (hts _ (List.mem_of_getElem? (i := 1161) (by decide +kernel))) (hts _ (List.mem_of_getElem? (i := 36) (by decide +kernel))) h2 hA
    · exact va_Zof (hts _ (List.mem_of_getElem? (i := 1661) (by decide +kernel))) (hts _ (List.mem_of_getElem? (i := 53) (by decide +kernel))) h3 hA
    · exact va_Zof (hts _ (List.mem_of_getElem? (i := 2997) (by decide +kernel))) (hts _ (List.mem_of_getElem? (i := 81) (by decide +kernel))) h4 hA
  · exact vx_Zqof (hts _ (List.mem_of_getElem? (i := 1219) (by decide +kernel))) (hts _ (List.mem_of_getElem? (i := 58) (by decide +kernel))) (flat_of_before _ hgv _ (List.mem_of_getElem? (i := 141) (by decide +kernel))) hA
  · exact vx_Zqof (hts _ (List.mem_of_getElem? (i := 1221) (by decide +kernel))) (hts _ (List.mem_of_getElem? (i := 58) (by decide +kernel))) (flat_of_before _ hgv _ (List.mem_of_getElem? (i := 142) (by decide +kernel))) hA
  · exact ⟨fun k hk => by
      show va_O _ (if k < 256 then adI k else if k = 256 then t4 else mi) _ _ _
      rw [if_pos hk]
      exact hI.1 k hk, fun k hk => by
      show va_OF _ _ _ _ (if k < 256 then adI k else if k = 256 then t4 else mi) _ _ _
      rw [if_pos hk]
      exact hI.2 k hk⟩
  · obtain ⟨cell, q1, q2, q3, q4, q5, q6, q7⟩ := hT4
    exact ⟨cell, q1, q2, q3, q4, q5, fun j hj => by
      show _ = some (Value.ref (if j < 256 then adI j else if j = 256 then t4 else mi))
      rw [if_pos hj]
      exact q6 j hj, q7⟩
  · exact va_Zof (hts _ (List.mem_of_getElem? (i := 2995) (by decide +kernel))) (hts _ (List.mem_of_getElem? (i := 81) (by decide +kernel))) (e_eqv (n := 127) (flat_of_before _ hgv _ (List.mem_of_getElem? (i := 593) (by decide +kernel)))) hA
end LW
section RF
/-- the room that the start has here -/
noncomputable def r_room : Jvm.Room := { frames := 2048, cells := r_cm, slots := r_sl, locals := 84000 }
noncomputable def r_Q (_ : Array Value) (s : State) (o : Outcome) (t : State) : Prop := o = .returned (some (.int 1)) ∧ r_lim < ((t.heap.toList.drop s.heap.size).map (·.slots.size)).sum
noncomputable def r_Z (below : List Frame) (a : Array Value) (s : State) : State → Prop := fun t => ∃ o, t.status = .running ∧ Ended t below o ∧ r_Q a s o t
/-- the law's own end, with 1 on the stack, and more in new cells than the statement allows -/
theorem r_ret {p : Program} {l : Launch} {e : Env} {s : State} {m : MethodId} {below : List Frame} {meth : Method} {c : Code} {b : Nat} (hx : p.tables.exec = Jvm.exec) (hb : c.code = code) (hr : meth.sig.returnType = ret) (hlocks : meth.locks = false) {pc : Nat} {H : Heap} {ls : Array Slot} (hH : r_lim < ((H.toList.drop s.heap.size).map (·.slots.size)).sum) (hdg : decode code pc = .ok (.ireturn, 1)) : W p l e r_room s m #[Value.ref b] below meth c H [] r_cm r_sl (r_Z below #[Value.ref b] s) (F0 m pc ls [.int 1]) := by
  intro T hT X
  obtain ⟨fs, hret, hrun, hended, hW, hframe⟩ := X.leave (v := some (.int 1)) (hlocks := hlocks) (fun h => by rw [hr] at h; cases h)
  have hmeth' : T.vm.method? m = some meth := X.method'
  refine ⟨T.setFrames fs, ?_, .returned (some (.int 1)), hrun, hended, rfl, by subst hT; exact hH⟩
  jvm_step X.here [X.here.top, hx, hb, hdg, hmeth', hr, ret, narrow_b1]
  (try refine ⟨rfl, ?_⟩); (try refine ⟨rfl, ?_⟩)
  first | (intro acts; rw [hret _ acts rfl rfl rfl]) | rw [hret _ _ rfl rfl rfl]
  exact Steps.refl _
theorem r_fin {p : Program} {e : Env} {s : State} {m : MethodId} {below : List Frame} {meth : Method} {c : Code} {l : Launch} {b L : Nat} {xs : Nat → Int32} (C0 : lw_At p s m meth c b L xs) {ad : Nat → Nat} {D : va_G} {tys : List (ClassId × FieldType)} {w' : e_W} {c' : e_Q} (h1 : c'.2.1 ≤ r_cm) (h2 : c'.2.2 ≤ r_sl) (h3 : r_lim < r_sm c'.1 13 w' 0) : e_En p l e r_room s m #[Value.ref b] below meth c (r_Z below #[Value.ref b] s) ad D tys s.heap.size 7 [] 0 0 (.inl (some (.inl 2147483649))) w' c' := by
  obtain ⟨hx, hb, hr, hml, hown, hts, hX, hbl, hlocks, hgv, hnm, het⟩ := C0
  intro as ws H locs hH pc ls x hrel hret
  obtain ⟨g1, g2, g3, g4, g5⟩ := hH
  obtain ⟨-, rfl⟩ := hrel
  have hd : decode c.code pc = .ok (.ireturn, 1) := by
    rcases hret with ⟨-, hd⟩ | ⟨⟨y, hy, -⟩, -⟩ | ⟨⟨hy, -⟩, -⟩
    · exact hd
    · cases hy
    · rcases hy with hy | ⟨a, hy⟩ <;> cases hy
  refine va_forget (fun z hz => g4.2.2 z hz) (W.widen (k := r_cm) (n := r_sl) (by omega) (by omega) ?_)
  exact r_ret hx hb hr hlocks (Nat.lt_of_lt_of_le h3 (r_count g1 g2 g3 g4.1)) (by rw [← hb]; exact hd)
theorem r_start {p : Program} {e : Env} {s : State} {m : MethodId} {below : List Frame} {meth : Method} {c : Code} {l : Launch} {b : Nat} {Q : State → Prop} {ad : Nat → Nat} {D : va_G} {tys : List (ClassId × FieldType)} (h0 : ad 0 = b)
    (h : e_wg p l e r_room s m #[Value.ref b] below meth c Q ad D tys s.heap.size 7 [] 0 0 0 e_al0 [] (e_t0 13) (0, 0, 0)) : W p l e r_room s m #[Value.ref b] below meth c s.heap [] 0 0 Q (entryFrame m ([Value.ref b] : List Value).toArray 7) := by
  have hent := lv_entry ([.ref b]) (n := 7) (Nat.le_of_ble_eq_true rfl)
  rw [lg_entry_eq]
  refine h [] [] s.heap [] _ [] ⟨⟨rfl, _, hent, fun i v hv => ?_⟩, trivial, ⟨rfl, rfl, Nat.zero_le _, fun i z hz => by simp at hz⟩, fun k z hz => by simp at hz, ⟨fun i j p q h => by simp at h, fun k q h => by simp at h⟩, va_S.rf, List.prefix_refl _⟩
  match i, hv with
  | 0, hv => cases hv; exact ⟨.ref b, List.mem_cons_self, by show Value.ref b = .ref (ad 0); rw [h0]⟩
  | 1, hv => cases hv
  | 2, hv => cases hv
  | 3, hv => cases hv
  | 4, hv => cases hv
  | 5, hv => cases hv
  | 6, hv => cases hv
  | n + 7, hv => rw [List.getElem?_eq_none (by show 7 ≤ n + 7; omega)] at hv; cases hv
/-- the script -/
noncomputable def r_xs : List Int32 := r_codes.map e_i
theorem r_bxE : r_bxL = r_bx := rfl
theorem r_codes_lt : ∀ m ∈ r_codes, m < 4294967296 := by decide +kernel
theorem r_rat_map : ∀ (l : List Nat) (j : Nat), e_rat (l.map (fun m => ((1, .inl m) : Nat × e_V))) j = (l[j]?).map (fun m => (.inl m : e_V))
  | [], j => by simp [e_rat, e_rget]
  | m :: t, 0 => rfl
  | m :: t, j + 1 => by
    show e_rat ((1, .inl m) :: t.map (fun m => ((1, .inl m) : Nat × e_V))) (j + 1) = _
    rw [e_rat_1, r_rat_map t j]
    rfl
theorem r_rlen_map : ∀ l : List Nat, e_rlen (l.map (fun m => ((1, .inl m) : Nat × e_V))) = l.length
  | [] => rfl
  | m :: t => by
    show 1 + e_rlen (t.map (fun m => ((1, .inl m) : Nat × e_V))) = t.length + 1
    rw [r_rlen_map t]
    omega
theorem r_fit : e_Fit r_bxL r_xs.length (fun j => r_xs.getD j 0) := by
  rw [r_bxE]
  refine ⟨by show e_rlen (r_codes.map _) = (r_codes.map e_i).length; rw [r_rlen_map, List.length_map], fun j v hv ad => ?_⟩
  rw [show r_bx = r_codes.map (fun m => ((1, .inl m) : Nat × e_V)) from rfl, r_rat_map] at hv
  cases hm : r_codes[j]? with
  | none => rw [hm] at hv; cases hv
  | some m =>
    rw [hm] at hv
    cases hv
    refine ⟨r_codes_lt m (List.mem_of_getElem? hm), ?_⟩
    show Value.int (r_xs.getD j 0) = Value.int (e_i m)
    rw [List.getD_eq_getElem?_getD, show r_xs[j]? = (r_codes[j]?).map e_i from List.getElem?_map, hm]
    rfl
theorem r_whole {p : Program} {e : Env} {s : State} {m : MethodId} {below : List Frame} {meth : Method} {c : Code} (l : Launch) (hflags : l.flags = flags0) {b : Nat} (C0 : lw_At p s m meth c b r_xs.length (fun j => r_xs.getD j 0)) : W p l e r_room s m #[Value.ref b] below meth c s.heap [] 0 0 (r_Z below #[Value.ref b] s) (entryFrame m ([Value.ref b] : List Value).toArray 7) := by
  obtain ⟨ad, D, tys, h0, hctx⟩ := e_ctx l hflags C0
  refine r_start (D := D) (tys := tys) h0 ?_
  obtain ⟨w', c', h1, h2, h3, hok⟩ := r_ok
  exact hok.2.2.2 p l e r_room s m #[Value.ref b] below meth c _ ad D tys s.heap.size 7 [] 0 0 (hctx _ r_fit) (Nat.le_of_ble_eq_true rfl) (Nat.le_of_ble_eq_true rfl) (Nat.zero_le _) (Nat.zero_le _) h1 h2 (r_fin C0 h1 h2 h3)
set_option maxHeartbeats 4000000 in
theorem r_walk (l : Launch) (hflags : l.flags = flags0) (b : Addr) : MetFree l x (headSpec (Jvm.Cond.code x code maxLocals ret :: tables_1) r_room) (lw_P b r_xs) (fun _ _ _ _ _ => True) r_Q := by
  refine MetFree.of_bodyS (code := code) (maxLocals := maxLocals) (ret := ret) (by decide) ?_ ?_
  · intro args s m h hn
    obtain ⟨meth, c, h1, h2, h3, h4, h5, h6, -, -⟩ := Cond.code_spec hn (atoms_spec (ws := Jvm.Cond.code x code maxLocals ret :: tables_1) h _ List.mem_cons_self)
    exact ⟨meth, c, h1, h2, h3, h4, h5, h6⟩
  · intro p e s m args below meth c s₁ B hml0 hP _
    obtain ⟨rfl, hx, hbd, hgv⟩ := hP
    obtain ⟨scr, harrAt, hlist, hof, hsmall⟩ := hx
    obtain ⟨hcb, hkn, -, -⟩ := State.arrayAt?_spec harrAt
    have hown : s.vm.findClass R_law = some m.cls := findClass_of_methodNamed B.named
    have hts0 : ∀ c ∈ (Jvm.Cond.code x code maxLocals ret :: tables_1), c.before #[Value.ref b] s = true := atoms_spec (ws := Jvm.Cond.code x code maxLocals ret :: tables_1) B.pre
    have hts : ∀ w ∈ lw_tbl, w.before #[Value.ref b] s = true := k2_hts_sels lw_privs (fun w hw => hts0 w (List.mem_cons_of_mem _ hw)) lw_privs_ok
    have hml : c.maxLocals = 7 := B.maxLocals_eq (hts0 _ List.mem_cons_self)
    have X₀ : Stand p l e r_room s m #[Value.ref b] below meth c s₁ [] 0 0 := Stand.of_body B
    have hh0 : s₁.heap = s.heap := by rw [B.state]; rfl
    have hsz : scr.slots.size = r_xs.length := by rw [← Array.length_toList, hlist, List.length_map]
    have hval : ∀ j : Nat, j < r_xs.length → scr.slots[j]? = some (.int (r_xs.getD j 0)) := fun j hj => by
      rw [← Array.getElem?_toList, hlist]
      simp [hj]
    have hbl : b < s.heap.size := (Array.getElem?_eq_some_iff.mp hcb).1
    have hX : va_X b r_xs.length (fun j => r_xs.getD j 0) s s.heap := ⟨scr, hcb, hof, hkn, hsz, hval⟩
    have K : W p l e r_room s m #[Value.ref b] below meth c s₁.heap [] 0 0 (r_Z below #[Value.ref b] s) (entryFrame m ([Value.ref b] : List Value).toArray 7) := by
      rw [hh0]
      exact r_whole l hflags ⟨B.exec, B.bytes, B.returns, hml, hown, hts, hX, hbl, B.notSynchronized, hgv, (name_of_methodNamed B.named B.method).1, e_et (args := #[Value.ref b]) B.method B.named (Stand.of_body B).code (fun w hw => hts w (List.mem_filter.mp hw).1)⟩
    obtain ⟨t, a1, o, b1, b2, b3⟩ := K s₁ rfl X₀
    exact ⟨t, o, a1, b1, b2, b3⟩
end RF
