/-! MORE OPERATIONS: rows of rows, stores and copies of boxes, a call of an interface -/
/-- a store of a reference that isn't null -/
noncomputable def e_okT (okc : Nat → Bool) (w : e_W) (v : e_V) : Bool := match v with
  | .inr (.inl (some j)) => okc (e_cod (e_tget 13 w j))
  | _ => false
noncomputable def o_astRN (tc : Nat) (okc : Nat → Bool) (nx : Nat) : e_O := fun g F ls st w c K => match st with
  | v :: .inl i :: .inr (.inl (some q)) :: r => bif e_okT okc w v && Nat.blt q 8192 && Nat.ble 2147483648 i then (match e_tget 13 w q with
    | .inr (t, rs) => bif Nat.beq t tc then e_rset v rs (i - 2147483648) (fun rs' => e_tput (.inr (t, rs')) 13 w q (fun w' => g F nx ls r w' c K)) else false
    | _ => false) else false
  | _ => false
section SN
variable {M pc : Nat} {cc : ByteArray}
theorem e_newqA {p : Program} {l : Launch} {e : Env} {R : Room} {s : State} {m : MethodId} {args : Array Value} {below : List Frame} {meth : Method} {c : Code} {H H0 : Heap} {locs : List Loc} {cells slots : Nat} {Q : State → Prop} {cc : ByteArray} {pc : Nat} {ls : Array Slot} {rest : List Value} {D : va_G} {cl : List vw_C} {A : Nat → Prop} {tys : List (ClassId × FieldType)} {ws : va_W} (hexec : p.tables.exec = Jvm.exec) (hb : c.code = cc) {own : String} {index : Nat} {t : FieldType} (hown : s.vm.findClass own = some m.cls) (hclink : (Jvm.Cond.classLink own index (FieldType.array t).toString).before args s = true) (hover : (Jvm.Cond.arrayOver (.array t)).before args s = true) (hK : va_K D cl tys s) (hP : va_P D cl ws H) (hD : va_D A ws) (hS : va_S A H0 H locs) (hA : ∀ q, H0.size ≤ q → A q)
    {n : Int32} {N' : Nat} (hn : ¬ n < 0) (hN : n.toNatClampNeg = N') (hbytes : N' * 4 ≤ 536870912) (hcells : cells + 1 ≤ R.cells) (hslots : slots + N' ≤ R.slots) (hdg : decode cc pc = .ok (.anewarray index, 3))
    (kk : ∀ (q : Nat) (cA : ClassId) (H1 : Heap), va_K D cl (tys ++ [(cA, .array t)]) s → va_P D cl (ws ++ [(q, .inl (cA, N', .inr (.inr (.inr (.inr (fun _ => none))))))]) H1 → va_D A (ws ++ [(q, .inl (cA, N', .inr (.inr (.inr (.inr (fun _ => none))))))]) → va_S A H0 H1 locs →
      W p l e R s m args below meth c H1 locs (cells + 1) (slots + N') Q (F0 m (pc + 3) ls (.ref q :: rest))) : W p l e R s m args below meth c H locs cells slots Q (F0 m pc ls (.int n :: rest)) := by
  subst hN
  refine W.anewA hexec hb hown hclink hover rfl hdg rfl hn hbytes hcells hslots fun cA kA comp f1 f2 f3 f4 => ?_
  generalize hH1 : H.push ({ cls := cA, slots := Array.replicate n.toNatClampNeg .null, vm := .none } : Cell) = H1
  have z1 : H1.size = H.size + 1 := by rw [← hH1, Array.size_push]
  have e1 : H1[H.size]? = some (arrV cA n.toNatClampNeg (fun _ => .null)) := by rw [← hH1, Array.getElem?_push_size, ← arrV_new]
  have o1 : ∀ q : Nat, q < H.size → H1[q]? = H[q]? := fun q hq => by rw [← hH1, Array.getElem?_push, if_neg (Nat.ne_of_lt hq)]
  have hAr : ArrOfT s cA (.array t) := fun N z => ⟨(fun k h => by cases h), kA, f2, comp, f3⟩
  have hk : ∀ (k : Nat) (x : Nat × va_E), ws[k]? = some x → H1[x.1]? = H[x.1]? := fun k x hx => o1 x.1 ((hP k x hx).lt)
  refine kk H.size cA H1 ⟨hK.1, fun k x hx => ?_⟩ ((hP.kept hk).app (fun k x hx => ?_)) (hD.push hP rfl (hA _ hS.1)) ⟨Nat.le_trans hS.1 (by omega), fun x h1 h2 => (o1 x (Nat.lt_of_lt_of_le h1 hS.1)).trans (hS.2.1 x h1 h2), hS.2.2⟩
  · by_cases hl : k < tys.length
    · rw [List.getElem?_append_left hl] at hx
      exact hK.2 k x hx
    · rw [List.getElem?_append_right (by omega)] at hx
      have hz : k - tys.length < 1 := (List.getElem?_eq_some_iff.mp hx).1
      rw [show k - tys.length = 0 by omega] at hx
      cases hx
      exact ⟨hAr, f1⟩
  · have hz : k < 1 := (List.getElem?_eq_some_iff.mp hx).1
    rw [show k = 0 by omega] at hx
    cases hx
    show H1[H.size]? = some (vp_cell _ _)
    rw [vp_cell_q]
    exact e1
theorem e_astqA {p : Program} {l : Launch} {e : Env} {R : Room} {s : State} {m : MethodId} {args : Array Value} {below : List Frame} {meth : Method} {c : Code} {H H0 : Heap} {locs : List Loc} {cells slots : Nat} {Q : State → Prop} {cc : ByteArray} {pc : Nat} {ls : Array Slot} {rest : List Value} {D : va_G} {cl : List vw_C} {A : Nat → Prop} {a : Nat} {ws : va_W} (hexec : p.tables.exec = Jvm.exec) (hb : c.code = cc) (hP : va_P D cl ws H) (hD : va_D A ws) (hS : va_S A H0 H locs) (q0 : Nat) {ty : FieldType} {cA comp : ClassId} {kA kE : Class} {n v : Nat} {f : Nat → Option Nat} (ha : ws[q0]? = some (a, .inl (cA, n, .inr (.inr (.inr (.inr f)))))) (k1 : s.vm.classes[cA]? = some kA) (k2 : kA.kind = .array comp (.array ty)) (hkE : s.vm.classes[comp]? = some kE) (hr : ∃ cellV : Cell, H[v]? = some cellV ∧ cellV.vm.isStatics = false ∧ cellV.cls = comp) {i : Int32} (hin : vp_in i n) (hdg : decode cc pc = .ok (.aastore, 1))
    (kk : ∀ (H1 : Heap) (locs1 : List Loc), va_P D cl (ws.set q0 (a, .inl (cA, n, .inr (.inr (.inr (.inr (va_up f i.toNatClampNeg (some v)))))))) H1 → va_D A (ws.set q0 (a, .inl (cA, n, .inr (.inr (.inr (.inr (va_up f i.toNatClampNeg (some v)))))))) → va_S A H0 H1 locs1 → W p l e R s m args below meth c H1 locs1 cells slots Q (F0 m (pc + 1) ls rest)) : W p l e R s m args below meth c H locs cells slots Q (F0 m pc ls (.ref v :: .int i :: .ref a :: rest)) := by
  have hlt : i.toNatClampNeg < n := Nat.not_le.mp fun q => hin (Or.inr q)
  have h0 : ¬ i < 0 := fun q => hin (Or.inl q)
  obtain ⟨cellV, g1, g3, g4⟩ := hr
  refine W.aast hexec hb (hP q0 _ ha) (fun q h => by cases h) (fun h => by cases h) k1 k2 rfl hkE ⟨h0, by show _ < (arrV _ _ _).slots.size; rw [arrV_size]; exact hlt⟩ g1 (fun q h => by rw [h] at g3; cases g3) (by rw [g4]; exact hkE) (by rw [g4]; exact va_asg _ _) rfl rfl hdg fun H1 e z oq => ?_
  refine kk H1 _ (hP.set hD ha ?_ oq) (hD.set ha) (hS.put z oq (hD.2 q0 _ ha))
  show H1[a]? = some (vp_cell _ _)
  rw [e]
  rw [vp_cell_q, vp_cell_q, arrV_store]
  congr 2
  funext q
  by_cases hq : q = i.toNatClampNeg
  · subst hq
    simp [updV, va_up, va_rf]
  · simp [updV, va_up, hq]
theorem s_newA {nx : Nat} {tc index : Nat} {own : String} {E : FieldType} (hkt : e_kt[tc + 3]? = some (.array E)) (ho : (e_ml[M]?).map (·.1.cls) = some own) (hcl : Jvm.Cond.classLink own index (FieldType.array E).toString ∈ lw_tbl) (hao : Jvm.Cond.arrayOver (.array E) ∈ lw_tbl) (hq : (e_ml[M]?).map (·.2.1) = some cc) (hd : decode cc pc = .ok (.anewarray index, 3)) (hnx : nx = pc + 3) : e_Sn M pc (o_newa (tc + 3) e_N nx) := by
  intro g hg F al st w c K hM h
  unfold o_newa at h
  split at h
  · next m9 r =>
    cases hbc : (Nat.ble 2147483648 m9 && Nat.ble m9 2214592512) with
    | false => rw [hbc, cond_false] at h; cases h
    | true =>
      rw [hbc, cond_true] at h
      obtain ⟨g1, g2⟩ := (Bool.and_eq_true _ _).mp hbc
      replace g1 := Nat.le_of_ble_eq_true g1
      replace g2 := Nat.le_of_ble_eq_true g2
      have key : ∃ rs w1, e_rlen rs = m9 - 2147483648 ∧ (∀ j v, e_rat rs j = some v → v = e_N) ∧ g F nx al (.inr (.inl (some c.1)) :: r) w1 (c.1 + 1, c.2.1 + 1, c.2.2 + (m9 - 2147483648)) K = true ∧ c.1 < 8192 ∧ ∀ j, j < 2 ^ 13 → e_tget 13 w1 j = if j = c.1 then .inr ((tc + 3), rs) else e_tget 13 w j := by
        generalize hN : m9 - 2147483648 = N at h
        cases N with
        | zero =>
          obtain ⟨w1, h, hn, hw1⟩ := e_push_t h
          exact ⟨[], w1, rfl, (fun j v hv => by cases hv), h, hn, hw1⟩
        | succ N =>
          obtain ⟨w1, h, hn, hw1⟩ := e_push_t h
          refine ⟨[(N + 1, e_N)], w1, rfl, fun j v hv => ?_, h, hn, hw1⟩
          rw [e_rat_cons] at hv
          split at hv
          · exact (Option.some.inj hv).symm
          · cases hv
      obtain ⟨rs, w1, hrl, hrv, h, hn, hw1⟩ := key
      obtain ⟨z, w', c', hK, hok⟩ := hg _ _ _ _ _ _ _ h
      refine ⟨z, w', c', hK, e_stepN hok (by dsimp only; omega) (by dsimp only; omega) (by dsimp only; omega) ?_⟩
      intro p l e R s m args below meth cd Q ad D tys base nL as0 k0 s0 hC hk0 hs0 hc hsl hW
      obtain ⟨hx, hb⟩ := e_cc hM hq hC
      intro as ws H locs ls ys hS
      obtain ⟨h1, h2, h3, h4, h5, h6, h7⟩ := hS
      obtain ⟨x0, ys, rfl, ⟨hm3, rfl⟩, h8⟩ := e_st_cons h2
      dsimp only at hc hsl hW
      subst hnx
      have hq : as.length = c.1 := by rw [← h3.1, List.length_map, h3.2.1]
      obtain ⟨N, hN⟩ : ∃ N, N = m9 - 2147483648 := ⟨_, rfl⟩
      rw [← hN] at hsl
      refine e_newqA (N' := N) hx hb (e_own hM ho hC) (e_wd hC hcl rfl) (over_moved (Vm.Alike.refl _) (hC.2.2.2.2.1.2.2.1 _ (List.mem_filter.mpr ⟨hao, rfl⟩))) hC.2.2.2.2.1.1 h4 h5 h6 (fun q hq => Nat.le_trans hC.2.2.2.2.2.1 hq) (e_i_neg hm3 g1) (by rw [e_i_cl hm3 g1, hN]) (by omega) (by omega) (by omega) hd (fun q cA H1 pK p1 p2 p3 => ?_)
      have hmono : as <+: as ++ [q] := ⟨[q], rfl⟩
      have hcA : ∃ ty, tys[(tc + 3)]? = some (cA, ty) := by
        cases hz : tys[(tc + 3)]? with
        | none =>
          have h9 := hC.2.2.2.2.1.2.1
          have h10 : (tys.map (·.2))[(tc + 3)]? = some (.array E) := by rw [h9]; exact hkt
          rw [List.getElem?_map, hz] at h10
          cases h10
        | some z =>
          obtain ⟨cB, tyB⟩ := z
          have h10 : tyB = (.array E) := Option.some.inj ((e_kt_at hC.2.2.2.2.1 hz).symm.trans (hkt))
          subst h10
          have r1 := (hC.2.2.2.2.1.1.2 _ _ hz).2
          have r2 := (pK.2 tys.length (cA, (.array E)) (by rw [List.getElem?_append_right (Nat.le_refl _), Nat.sub_self]; rfl)).2
          replace r1 : s.vm.findClass _ = some cB := r1
          replace r2 : s.vm.findClass _ = some cA := r2
          cases r1.symm.trans r2
          exact ⟨_, rfl⟩
      have hfin := hW (as ++ [q]) _ H1 locs ls (.ref q :: ys) ⟨e_lo_mono h1 hmono, ⟨⟨q, by rw [List.getElem?_append_right (by omega), hq, Nat.sub_self]; rfl, rfl⟩, e_st_mono hmono h8⟩, e_wk_push h3 hn hw1 (show e_ent ad (as ++ [q]) tys (.inr ((tc + 3), rs)) (.inl (cA, N, .inr (.inr (.inr (.inr (fun _ => none)))))) from ⟨hcA, by omega, by omega, fun j v hv => by rw [hrv j v hv]; rfl⟩), p1, p2, p3, List.IsPrefix.trans h7 hmono⟩
      dsimp only at hfin
      rw [← hN, Nat.sub_add_comm hk0, Nat.sub_add_comm hs0] at hfin
      exact hfin
  · cases h

theorem s_aastA {nx tc : Nat} (hq : (e_ml[M]?).map (·.2.1) = some cc) (hkt : e_kt[tc + 3]? = some (.array .int)) (hk0 : e_kt[0]? = some .int) (hcl : e_cl.length ≤ 100) (hao : Jvm.Cond.arrayOver (.array .int) ∈ lw_tbl) (hd : decode cc pc = .ok (.aastore, 1)) (hnx : nx = pc + 1) : e_Sn M pc (o_astRN (tc + 3) (fun k => Nat.beq k 100) nx) := by
  intro g hg F al st w c K hM h
  unfold o_astRN at h
  split at h
  · next v i q r =>
    cases hbc : (e_okT (fun k => Nat.beq k 100) w v && Nat.blt q 8192 && Nat.ble 2147483648 i) with
    | false => rw [hbc, cond_false] at h; cases h
    | true =>
      rw [hbc, cond_true] at h
      obtain ⟨g0, hi2⟩ := (Bool.and_eq_true _ _).mp hbc
      obtain ⟨hokv, hq512⟩ := (Bool.and_eq_true _ _).mp g0
      replace hi2 := Nat.le_of_ble_eq_true hi2
      replace hq512 : q < 2 ^ 13 := Nat.le_of_ble_eq_true hq512
      split at h
      · next t rs hc =>
        cases hbt : Nat.beq t (tc + 3) with
        | false => rw [hbt, cond_false] at h; cases h
        | true =>
          rw [hbt, cond_true] at h
          replace hbt := Nat.eq_of_beq_eq_true hbt
          subst hbt
          obtain ⟨rs', h, hlt, hlen, hrat⟩ := e_rset_t h
          obtain ⟨w1, h, hw1⟩ := e_tput_t 13 w q _ hq512 h
          obtain ⟨z, w', c', hK, hok⟩ := hg _ _ _ _ _ _ _ h
          refine ⟨z, w', c', hK, e_step hok ?_⟩
          intro p l e R s m args below meth cd Q ad D tys base nL as0 k0 s0 hC hW
          obtain ⟨hx, hb⟩ := e_cc hM hq hC
          intro as ws H locs ls ys hS
          obtain ⟨h1, h2, h3, h4, h5, h6, h7⟩ := hS
          obtain ⟨x0, ys, rfl, hr0, h80⟩ := e_st_cons h2
          obtain ⟨x1, ys, rfl, hr1, h81⟩ := e_st_cons h80
          obtain ⟨x, ys, rfl, hr, h8⟩ := e_st_cons h81
          obtain ⟨a, ha, rfl⟩ := e_ref hr
          obtain ⟨hi3, rfl⟩ := hr1
          obtain ⟨e', he, hent⟩ := e_wk_at h3 ha
          rw [hc] at hent
          cases e' with
          | inr z => exact hent.elim
          | inl o =>
            obtain ⟨cA, n, f⟩ := o
            obtain ⟨⟨ty, hty⟩, hn, hn2, harr⟩ := hent
            have hk := e_kt_at hC.2.2.2.2.1 hty
            obtain rfl : ty = .array .int := Option.some.inj (hk.symm.trans hkt)
            subst hnx
            rcases f with f | f | f | f | f
            · exact harr.elim
            · exact harr.elim
            · exact harr.elim
            · exact harr.elim
            · skip
              have hent2 : ∀ y : Option Nat, e_rel ad as v (va_rf y) → e_ent ad as tys (.inr (tc + 3, rs')) (.inl (cA, n, .inr (.inr (.inr (.inr (va_up f (i - 2147483648) y)))))) := fun y hy => ⟨⟨_, hty⟩, by omega, hn2, fun j u hj => by
                rw [hrat] at hj
                unfold va_up
                by_cases hji : j = i - 2147483648
                · rw [if_pos hji] at hj; cases hj; rw [if_pos hji]; exact hy
                · rw [if_neg hji] at hj; rw [if_neg hji]; exact harr j u hj⟩
              unfold e_okT at hokv
              split at hokv
              · next j =>
                obtain ⟨b, hb9, rfl⟩ := e_ref hr0
                obtain ⟨e2, he2, hen2⟩ := e_wk_at h3 hb9
                obtain ⟨comp, cR, kR, r1, -, r2, r3, r4⟩ := arrayOverA_spec (over_moved (a' := args) (Vm.Alike.refl _) (hC.2.2.2.2.1.2.2.1 _ (List.mem_filter.mpr ⟨hao, rfl⟩)))
                have r5 : s.vm.findClass ("[" ++ (FieldType.array .int).toString) = some cA := (hC.2.2.2.2.1.1.2 _ _ hty).2
                cases r4.symm.trans r5
                obtain ⟨kE, hkE, -⟩ := Vm.findClass_spec r1
                have hany : ∃ cellV : Cell, H[b]? = some cellV ∧ cellV.vm.isStatics = false ∧ cellV.cls = comp := by
                  generalize e_tget 13 w j = xx at hen2 hokv
                  replace hokv := Nat.eq_of_beq_eq_true hokv
                  cases xx with
                  | inl o1 =>
                    obtain ⟨ci, fs⟩ := o1
                    cases e2 with
                    | inl z => exact hen2.elim
                    | inr o2 =>
                      obtain ⟨cj, vs⟩ := o2
                      obtain ⟨rfl, -, -⟩ := hen2
                      obtain ⟨r9, q1, -⟩ := h4 j _ he2
                      have := (List.getElem?_eq_some_iff.mp q1).1
                      have g9 : ci = 100 := hokv
                      omega
                  | inr o1 =>
                    obtain ⟨t2, rs2⟩ := o1
                    have g9 : 100 + t2 = 100 := hokv
                    obtain rfl : t2 = 0 := by omega
                    cases e2 with
                    | inr z => exact hen2.elim
                    | inl o2 =>
                      obtain ⟨cB, nB, fB⟩ := o2
                      obtain ⟨⟨tyB, htyB⟩, -, -, -⟩ := hen2
                      obtain rfl : tyB = .int := Option.some.inj ((e_kt_at hC.2.2.2.2.1 htyB).symm.trans hk0)
                      have q9 : s.vm.findClass ("[" ++ FieldType.int.toString) = some cB := (hC.2.2.2.2.1.1.2 0 _ htyB).2
                      have q8 : s.vm.findClass ("[" ++ FieldType.int.toString) = some comp := r1
                      cases q8.symm.trans q9
                      have hcell := h4 j _ he2
                      unfold va_at at hcell
                      dsimp only at hcell
                      refine ⟨_, hcell, ?_, ?_⟩
                      · unfold vp_cell; split <;> rfl
                      · unfold vp_cell; split <;> rfl
                exact e_astqA hx hb h4 h5 h6 q he r2 r3 hkE hany (e_in hi3 hi2 (by omega)) hd (fun H1 locs1 p1 p2 p3 => by
                  rw [e_i_cl hi3 hi2] at p1 p2
                  exact hW as _ H1 locs1 ls ys ⟨h1, h8, e_wk_set h3 he hw1 (hent2 (some b) ⟨b, hb9, rfl⟩), p1, p2, p3, h7⟩)
              · cases hokv
      · cases h
  · cases h

theorem s_astB {nx tc : Nat} {E : String} {okc : Nat → Bool} (hR : e_Sn M pc (o_astR (tc + 3) okc nx)) (hq : (e_ml[M]?).map (·.2.1) = some cc) (hkt : e_kt[tc + 3]? = some (.object E)) (hca : Jvm.Cond.castable "java/lang/Integer" E ∈ lw_tbl) (hd : decode cc pc = .ok (.aastore, 1)) (hnx : nx = pc + 1) : e_Sn M pc (o_astB (tc + 3) okc nx) := by
  intro g hg F al st w c K hM h
  unfold o_astB at h
  split at h
  · next k i q r =>
    cases hbc : (e_isB k && Nat.blt q 8192 && Nat.ble 2147483648 i) with
    | false => rw [hbc, cond_false] at h; cases h
    | true =>
      rw [hbc, cond_true] at h
      obtain ⟨g0, hi2⟩ := (Bool.and_eq_true _ _).mp hbc
      obtain ⟨hokv, hq512⟩ := (Bool.and_eq_true _ _).mp g0
      replace hi2 := Nat.le_of_ble_eq_true hi2
      replace hq512 : q < 2 ^ 13 := Nat.le_of_ble_eq_true hq512
      obtain ⟨j9, rfl, hj9⟩ := e_isB_t hokv
      split at h
      · next t rs hc =>
        cases hbt : Nat.beq t (tc + 3) with
        | false => rw [hbt, cond_false] at h; cases h
        | true =>
          rw [hbt, cond_true] at h
          replace hbt := Nat.eq_of_beq_eq_true hbt
          subst hbt
          obtain ⟨rs', h, hlt, hlen, hrat⟩ := e_rset_t h
          obtain ⟨w1, h, hw1⟩ := e_tput_t 13 w q _ hq512 h
          obtain ⟨z, w', c', hK, hok⟩ := hg _ _ _ _ _ _ _ h
          refine ⟨z, w', c', hK, e_step hok ?_⟩
          intro p l e R s m args below meth cd Q ad D tys base nL as0 k0 s0 hC hW
          obtain ⟨hx, hb⟩ := e_cc hM hq hC
          intro as ws H locs ls ys hS
          obtain ⟨h1, h2, h3, h4, h5, h6, h7⟩ := hS
          obtain ⟨x0, ys, rfl, hr0, h80⟩ := e_st_cons h2
          obtain ⟨x1, ys, rfl, hr1, h81⟩ := e_st_cons h80
          obtain ⟨x, ys, rfl, hr, h8⟩ := e_st_cons h81
          obtain ⟨a, ha, rfl⟩ := e_ref hr
          obtain ⟨hi3, rfl⟩ := hr1
          cases (show x0 = .ref (ad (j9 + 4)) from hr0)
          obtain ⟨e', he, hent⟩ := e_wk_at h3 ha
          rw [hc] at hent
          cases e' with
          | inr z => exact hent.elim
          | inl o =>
            obtain ⟨cA, n, f⟩ := o
            obtain ⟨⟨ty, hty⟩, hn, hn2, harr⟩ := hent
            have hk := e_kt_at hC.2.2.2.2.1 hty
            obtain rfl : ty = .object E := Option.some.inj (hk.symm.trans hkt)
            subst hnx
            rcases f with f | f | f | f | f
            · exact harr.elim
            · exact harr.elim
            · exact harr.elim
            · exact harr.elim
            · skip
              have hent2 : e_ent ad as tys (.inr (tc + 3, rs')) (.inl (cA, n, .inr (.inr (.inr (.inr (va_up f (i - 2147483648) (some (ad (j9 + 4))))))))) := ⟨⟨_, hty⟩, by omega, hn2, fun j u hj => by
                rw [hrat] at hj
                unfold va_up
                by_cases hji : j = i - 2147483648
                · rw [if_pos hji] at hj; cases hj; rw [if_pos hji]; exact (rfl : va_rf (some (ad (j9 + 4))) = .ref (ad (j9 + 4)))
                · rw [if_neg hji] at hj; rw [if_neg hji]; exact harr j u hj⟩
              obtain ⟨cell, c1, c2, c3, -⟩ := (hC.2.2.2.2.2.2.1.2.2.2.2.1.1 j9 hj9).kept h6.2.1
              exact vb_astq (C := "java/lang/Integer") hx hb hC.2.2.2.2.1.1 h4 h5 h6 q _ he hty ⟨cell, c1, c2, c3⟩ (fun comp c0 f1 f2 => vb_asgC (hC.2.2.2.2.1.2.2.1 _ (List.mem_filter.mpr ⟨hca, rfl⟩)) comp c0 f1 f2) (e_in hi3 hi2 (by omega)) hd (fun H1 locs1 p1 p2 p3 => by
                rw [e_i_cl hi3 hi2] at p1 p2
                exact hW as _ H1 locs1 ls ys ⟨h1, h8, e_wk_set h3 he hw1 hent2, p1, p2, p3, h7⟩)
      · cases h
  · exact hR g hg F al _ w c K hM h
theorem e_rat_app : ∀ (r l : List (Nat × e_V)) (j : Nat), e_rat (r ++ l) j = if j < e_rlen r then e_rat r j else e_rat l (j - e_rlen r)
  | [], l, j => by rw [if_neg (by show ¬ j < 0; omega)]; rfl
  | (n, v) :: r, l, j => by
    rw [List.cons_append, e_rat_cons, e_rat_cons, e_rat_app r l]
    show _ = if j < n + e_rlen r then _ else e_rat l (j - (n + e_rlen r))
    by_cases h1 : j < n
    · rw [if_pos h1, if_pos (by omega), if_pos h1]
    · rw [if_neg h1, if_neg h1]
      by_cases h2 : j - n < e_rlen r
      · rw [if_pos h2, if_pos (by omega)]
      · rw [if_neg h2, if_neg (by omega), show j - n - e_rlen r = j - (n + e_rlen r) by omega]
theorem e_rlen_app : ∀ (r l : List (Nat × e_V)), e_rlen (r ++ l) = e_rlen r + e_rlen l
  | [], l => by show e_rlen l = 0 + e_rlen l; omega
  | (n, v) :: r, l => by
    show n + e_rlen (r ++ l) = n + e_rlen r + e_rlen l
    rw [e_rlen_app r l]; omega
theorem e_take_t : ∀ {l : List (Nat × e_V)} {n : Nat} {k : List (Nat × e_V) → Bool}, e_take l n k = true → ∃ r, k r = true ∧ e_rlen r = n ∧ ∀ j, j < n → ∃ b, e_rat r j = some (e_B b) ∧ e_rat l j = some (e_B b) ∧ e_isB b = true
  | _, 0, k, h => ⟨[], by unfold e_take at h; exact h, rfl, fun j hj => absurd hj (Nat.not_lt_zero j)⟩
  | [], n + 1, k, h => by unfold e_take at h; cases h
  | (m, v) :: l, n + 1, k, h => by
    unfold e_take at h
    split at h
    · next b =>
      cases hb : e_isB b with
      | false => rw [hb, cond_false] at h; cases h
      | true =>
        rw [hb, cond_true] at h
        cases hm : Nat.ble (n + 1) m with
        | true =>
          rw [hm, cond_true] at h
          have hm2 := Nat.le_of_ble_eq_true hm
          refine ⟨_, h, by show n + 1 + 0 = n + 1; omega, fun j hj => ⟨b, ?_, ?_, hb⟩⟩
          · rw [e_rat_cons, if_pos hj]
          · rw [e_rat_cons, if_pos (by omega)]
        | false =>
          rw [hm, cond_false] at h
          have hm2 : ¬ n + 1 ≤ m := fun h => by rw [Nat.ble_eq_true_of_le h] at hm; cases hm
          obtain ⟨r, h1, h2, h3⟩ := e_take_t (e_fo_t h)
          refine ⟨_, h1, by show m + e_rlen r = n + 1; omega, fun j hj => ?_⟩
          by_cases hjm : j < m
          · exact ⟨b, by rw [e_rat_cons, if_pos hjm], by rw [e_rat_cons, if_pos hjm], hb⟩
          · obtain ⟨b2, q1, q2, q3⟩ := h3 (j - m) (by omega)
            exact ⟨b2, by rw [e_rat_cons, if_neg hjm, q1], by rw [e_rat_cons, if_neg hjm, q2], q3⟩
    · cases h
theorem s_copyB {nx index : Nat} {own : String} (hkt : e_kt[3]? = some (.object "java/lang/Object")) (hca : Jvm.Cond.castable "java/lang/Integer" "java/lang/Object" ∈ lw_tbl) (hq : (e_ml[M]?).map (·.2.1) = some cc) (ho : (e_ml[M]?).map (·.1.cls) = some own) (hl1 : Jvm.Cond.methodLink own index arraycopyName ∈ lw_tbl) (hl2 : Jvm.Cond.native arraycopyName ∈ lw_tbl) (hl3 : Jvm.Cond.static arraycopyName ∈ lw_tbl) (hl4 : Jvm.Cond.initialized "java/lang/System" ∈ lw_tbl) (hd : decode cc pc = .ok (.invokestatic index, 3)) (hnx : nx = pc + 3) : e_Sn M pc (o_copyB nx) := by
  intro g hg F al st w c K hM h
  unfold o_copyB at h
  split at h
  · next n dp q1 sp q0 r =>
    cases hbc : (Nat.ble 2147483648 n && Nat.beq dp 2147483648 && Nat.beq sp 2147483648 && Nat.blt q1 8192 && Nat.blt 0 F.2.1 && Nat.ble 4000 F.2.2.1 && Nat.ble (e_stw r) 8) with
    | false => rw [hbc, cond_false] at h; cases h
    | true =>
      rw [hbc, cond_true] at h
      obtain ⟨hbc, g8⟩ := (Bool.and_eq_true _ _).mp hbc
      obtain ⟨hbc, g7⟩ := (Bool.and_eq_true _ _).mp hbc
      obtain ⟨hbc, g6⟩ := (Bool.and_eq_true _ _).mp hbc
      obtain ⟨hbc, g5⟩ := (Bool.and_eq_true _ _).mp hbc
      obtain ⟨hbc, g3⟩ := (Bool.and_eq_true _ _).mp hbc
      obtain ⟨g1, g2⟩ := (Bool.and_eq_true _ _).mp hbc
      replace g1 := Nat.le_of_ble_eq_true g1
      replace g2 := Nat.eq_of_beq_eq_true g2
      replace g3 := Nat.eq_of_beq_eq_true g3
      replace g5 : q1 < 2 ^ 13 := Nat.le_of_ble_eq_true g5
      replace g6 : 0 < F.2.1 := Nat.le_of_ble_eq_true g6
      replace g7 := Nat.le_of_ble_eq_true g7
      replace g8 := Nat.le_of_ble_eq_true g8
      subst g2; subst g3
      split at h
      · next rs0 N hc0 hc1 =>
        cases hbd : (Nat.ble (n - 2147483648) N && Nat.ble (n - 2147483648) (e_rlen rs0)) with
        | false => rw [hbd, cond_false] at h; cases h
        | true =>
          rw [hbd, cond_true] at h
          obtain ⟨g9, g10⟩ := (Bool.and_eq_true _ _).mp hbd
          replace g9 := Nat.le_of_ble_eq_true g9
          replace g10 := Nat.le_of_ble_eq_true g10
          obtain ⟨rs, h, hr1, hr2⟩ := e_take_t h
          replace h := e_fo_t h
          obtain ⟨w1, h, hw1⟩ := e_tput_t 13 w q1 _ g5 h
          obtain ⟨z, w', c', hK, hok⟩ := hg _ _ _ _ _ _ _ h
          refine ⟨z, w', c', hK, e_stepR hok ?_⟩
          intro p l e R s m args below meth cd Q ad D tys base nL as0 k0 s0 hC hf hl hW
          obtain ⟨hx, hb⟩ := e_cc hM hq hC
          intro as ws H locs ls ys hS
          obtain ⟨h1, h2, h3, h4, h5, h6, h7⟩ := hS
          obtain ⟨x1, ys, rfl, hx1, j1⟩ := e_st_cons h2
          obtain ⟨x2, ys, rfl, hx2, j2⟩ := e_st_cons j1
          obtain ⟨x3, ys, rfl, hx3, j3⟩ := e_st_cons j2
          obtain ⟨x4, ys, rfl, hx4, j4⟩ := e_st_cons j3
          obtain ⟨x5, ys, rfl, hx5, j5⟩ := e_st_cons j4
          obtain ⟨hn3, rfl⟩ := hx1
          obtain ⟨-, rfl⟩ := hx2
          obtain ⟨-, rfl⟩ := hx4
          obtain ⟨a1, ha1, rfl⟩ := e_ref hx3
          obtain ⟨a0, ha0, rfl⟩ := e_ref hx5
          obtain ⟨e1, he1, hen1⟩ := e_wk_at h3 ha1
          obtain ⟨e0, he0, hen0⟩ := e_wk_at h3 ha0
          rw [hc1] at hen1
          rw [hc0] at hen0
          cases e1 with
          | inr z => exact hen1.elim
          | inl o1 =>
          cases e0 with
          | inr z => exact hen0.elim
          | inl o0 =>
          obtain ⟨cA1, n1, f1⟩ := o1
          obtain ⟨cA0, n0, f0⟩ := o0
          obtain ⟨⟨ty1, ht1⟩, hn1, hn12, har1⟩ := hen1
          obtain ⟨⟨ty0, ht0⟩, hn0, hn02, har0⟩ := hen0
          obtain rfl : ty0 = .object "java/lang/Object" := Option.some.inj ((e_kt_at hC.2.2.2.2.1 ht0).symm.trans hkt)
          obtain rfl : ty1 = .object "java/lang/Object" := Option.some.inj ((e_kt_at hC.2.2.2.2.1 ht1).symm.trans hkt)
          rcases f1 with f1 | f1 | f1 | f1 | f1
          · exact har1.elim
          · exact har1.elim
          · exact har1.elim
          · exact har1.elim
          rcases f0 with f0 | f0 | f0 | f0 | f0
          · exact har0.elim
          · exact har0.elim
          · exact har0.elim
          · exact har0.elim
          have hz : (e_i 2147483648).toNatClampNeg = 0 := by rw [e_i_cl (by decide) (by decide)]
          have hzn : ¬ e_i 2147483648 < 0 := e_i_neg (by decide) (by decide)
          have hnn := e_i_cl hn3 g1
          subst hnx
          have hN1 : n1 = N := by rw [hn1]; show N + 0 = N; omega
          have hsz : cd.maxLocals = ls.size := (h1.2.choose_spec.1.1.trans (by obtain ⟨-, -, -, -, -, -, -, q9, -, -, r3, -⟩ := hC; exact r3.symm)).symm
          have hf0 : ∀ i, i < n - 2147483648 → ∃ b, f0 i = some (ad b) ∧ e_isB b = true ∧ e_rat rs i = some (e_B b) := by
            intro i hi
            obtain ⟨b, b1, b2, b3⟩ := hr2 i hi
            have b4 : va_rf (f0 i) = .ref (ad b) := har0 i _ b2
            refine ⟨b, ?_, b3, b1⟩
            cases hfi : f0 i with
            | none => rw [hfi] at b4; cases b4
            | some y => rw [hfi] at b4; cases b4; rfl
          refine va_copyq (C := "java/lang/Integer") hx hb hsz (e_own hM ho hC) (e_wd hC hl1 rfl) (e_wd hC hl2 rfl) (e_wd hC hl3 rfl) (e_wd hC hl4 rfl) hC.2.2.2.2.1.1 h4 h5 h6 q0 q1 3 3 he0 he1 ht0 ht1 hzn hzn (e_i_neg hn3 g1) (by rw [hz, hnn]; omega) (by rw [hz, hnn]; omega) (fun i hi y hy => ?_) (fun comp c0 f1 f2 => vb_asgC (hC.2.2.2.2.1.2.2.1 _ (List.mem_filter.mpr ⟨hca, rfl⟩)) comp c0 f1 f2) (by omega) ?_ hd (fun H1 locs1 p1 p2 p3 => ?_)
          · rw [hnn] at hi
            rw [hz, Nat.zero_add] at hy
            obtain ⟨b, b1, b2, -⟩ := hf0 i hi
            obtain ⟨j9, rfl, hj9⟩ := e_isB_t b2
            rw [b1] at hy
            cases hy
            obtain ⟨cell, c1, c2, c3, -⟩ := (hC.2.2.2.2.2.2.1.2.2.2.2.1.1 j9 hj9).kept h6.2.1
            exact ⟨cell, c1, c2, c3⟩
          · rw [e_stw_t j5]
            have hw9 : nativeFrameWords "java/lang/System" "arraycopy" 5 + 11 ≤ 3000 := by decide +kernel
            omega
          · rw [hz, hnn] at p1 p2
            refine hW as _ H1 locs1 ls ys ⟨h1, j5, e_wk_set h3 he1 hw1 (show e_ent ad as tys (.inr (3, rs ++ [(N - (n - 2147483648), e_N)])) (.inl (cA1, n1, .inr (.inr (.inr (.inr (va_cpy f0 f1 0 0 (n - 2147483648))))))) from ⟨⟨_, ht1⟩, ?_, hn12, fun j v hv => ?_⟩), p1, p2, p3, h7⟩
            · rw [e_rlen_app, hr1, hN1]
              show N = n - 2147483648 + (N - (n - 2147483648) + 0)
              omega
            · rw [e_rat_app, hr1] at hv
              unfold va_cpy
              by_cases hj : j < n - 2147483648
              · rw [if_pos hj] at hv
                obtain ⟨b, b1, b2, b3⟩ := hf0 j hj
                rw [b3] at hv
                cases hv
                rw [if_pos ⟨Nat.zero_le _, by omega⟩, Nat.zero_add, Nat.sub_zero, b1]
                exact (rfl : va_rf (some (ad b)) = .ref (ad b))
              · rw [if_neg hj, e_rat_cons] at hv
                split at hv
                · next hlt =>
                  cases hv
                  rw [if_neg (by omega)]
                  have q9 : e_rat [(N, (e_N : e_V))] j = some e_N := by rw [e_rat_cons, if_pos (by omega)]
                  exact har1 j _ q9
                · cases hv
      · cases h
  · cases h
theorem e_runW5 {p : Program} {l : Launch} {e : Env} {R : Room} {s : State} {m : MethodId} {args : Array Value} {below : List Frame} {meth : Method} {cd : Code} {Q : State → Prop} {ad : Nat → Nat} {D : va_G} {tys : List (ClassId × FieldType)} {base : Nat} {as : List Nat} {ov : Option e_V} {w1 : e_W} {n1 mc ms cells slots pc : Nat} {H : Heap} {locs : List Loc} {ls : Array Slot} {ys rc : List Value} {a : Array Value}
    (hr : va_Run5 p l e R s m args below meth cd H locs cells slots mc ms (F0 m pc ls ys) rc (e_Qc ad D tys base as ov w1 n1 a) (e_A0 base)) (hS : va_S (e_A0 base) s.heap H locs)
    (hk : ∀ (as1 : List Nat) (ws1 : va_W) (H1 : Heap) (locs1 : List Loc) (xo : List Value), as <+: as1 → e_wk ad as1 tys w1 n1 ws1 → va_P D e_cl ws1 H1 → va_D (e_A0 base) ws1 → va_S (e_A0 base) s.heap H1 locs1 → (match ov with
      | some v => ∃ x, xo = [x] ∧ e_rel ad as1 v x
      | none => xo = []) → W p l e R s m args below meth cd H1 locs1 (cells + mc) (slots + ms) Q (F0 m (pc + 5) ls (xo ++ rc))) : W p l e R s m args below meth cd H locs cells slots Q (F0 m pc ls ys) := by
  intro T hT X
  obtain ⟨v, st₀, t, T', L, h0, X', hL, e1, e2, ⟨as1, ws1, q1, q2, q3, q4, q5, q6⟩, st⟩ := hr T hT X
  obtain ⟨k1, k2, k3⟩ := vx_keep (A0 := e_A0 base) h0 e1 hS (fun _ _ h => h) (fun _ h => h) hL q5
  obtain ⟨t2, a1, b1⟩ := hk as1 ws1 T'.heap (locs ++ L) v.toList q1 q2 (by rw [e1]; exact q3) q4 k3 (by
    cases ov with
    | none => cases q6; rfl
    | some u => obtain ⟨x, hx, hx2⟩ := q6; cases hx; exact ⟨x, rfl, hx2⟩) T' rfl X'
  exact ⟨t2, st t2 a1, b1⟩

theorem s_callF {count : Nat} {xn : MethodName} {y mm n nx index ci N : Nat} {own C : String} {T : u_T} {yn : MethodName} {yb : ByteArray} {rt : Option FieldType} (hq : (e_ml[M]?).map (·.2.1) = some cc) (ho : (e_ml[M]?).map (·.1.cls) = some own) (hy : e_ml[y]? = some (yn, yb, mm, rt)) (hplain : plainName yn.cls = true) (hcode : Jvm.Cond.code yn yb mm rt ∈ lw_tbl) (hini : Jvm.Cond.initialized yn.cls ∈ lw_tbl) (hdn : xn.cls ≠ "java/lang/invoke/MethodHandle" ∧ xn.cls ≠ "java/lang/invoke/VarHandle" ∧ (parseMethodDescriptor xn.desc).map (fun d => d.parameters.length) = some n) (hlink : Jvm.Cond.methodLink own index xn ∈ lw_tbl) (hfw : (C, xn, yn) ∈ e_fw) (hinst : Jvm.Cond.instanceMethod yn ∈ lw_tbl) (hsel : Jvm.Cond.selects C xn yn ∈ lw_tbl) (hcl : e_cl[ci]? = some (C, T, N)) (hd : decode cc pc = .ok (.invokeinterface index count, 5)) (hnx : nx = pc + 5) : e_Sn M pc (o_callV (e_s1 ci y mm) (n + 1) nx) := by
  intro g hg F al st w c K hM h
  unfold o_callV o_callX at h
  obtain ⟨t, r, hst9, ht0, h9⟩ := e_args_t h
  clear h
  have h := h9
  clear h9
  subst hst9
  rw [List.append_nil] at h
  split at h
  · next q t0 htr =>
    split at h
    · next cj fs9 hc9 =>
      split at h
      · next y9 m9 hs9 =>
        have e1 : cj = ci ∧ y9 = y ∧ m9 = mm := by
          unfold e_s1 at hs9
          cases hb9 : Nat.beq cj ci with
          | false => rw [hb9, cond_false] at hs9; cases hs9
          | true => rw [hb9, cond_true] at hs9; cases hs9; exact ⟨Nat.eq_of_beq_eq_true hb9, rfl, rfl⟩
        obtain ⟨e1a, e1b, e1c⟩ := e1
        replace e1b := e1b.symm
        replace e1c := e1c.symm
        subst e1a e1b e1c
        obtain ⟨la, z1, w1, c1, hfr, hlo, hst8, hlal, hla, hok1, hres⟩ := e_go_t hg h
        rcases z1 with (_ | v) | E
        · obtain ⟨z2, w2, c2, hK2, hok2⟩ := hg _ _ _ _ _ _ _ hres
          refine ⟨z2, w2, c2, hK2, Nat.le_trans hok1.1 hok2.1, Nat.le_trans hok1.2.1 hok2.2.1, Nat.le_trans hok1.2.2.1 hok2.2.2.1, ?_⟩
          intro p l e R s m args below meth cd Q ad D tys base nL as0 k0 s0 hC hf hl hk hs hc hsl hE
          have hok1' := hok1
          obtain ⟨b1, b2, b3, -⟩ := hok1'
          have hWG := hok2.2.2.2 p l e R s m args below meth cd Q ad D tys base nL as0 k0 s0 hC hf hl (by omega) (by omega) hc hsl hE
          obtain ⟨hx, hb⟩ := e_cc hM hq hC
          have d2 := hok2.2.1
          have d3 := hok2.2.2.1
          intro as ws H locs ls ys hS
          obtain ⟨h1, h2, h3, h4, h5, h6, h7⟩ := hS
          obtain ⟨tc, rc, rfl, ht1, ht2, ht3⟩ := e_st_app h2
          have hrv := e_st_rev ht2
          rw [htr] at hrv
          obtain ⟨x0, tc0, htc0, hrel0, hst0⟩ := e_st_cons hrv
          obtain ⟨b0, hb0, rfl⟩ := e_ref hrel0
          have htc : tc = tc0.reverse ++ [.ref b0] := by rw [← List.reverse_reverse tc, htc0, List.reverse_cons]
          have hlen0 : tc0.length = n := by
            have e1 := congrArg List.length htc
            simp [ht1, ht0] at e1
            omega
          have hwd : (rc.map fun v => v.category).sum ≤ 8 := by rw [e_stw_t ht3]; exact hst8
          have hM9 := e_met (ad := ad) (D := D) (tys := tys) (base := base) (as0 := as) (ws0 := ws) (l := l) hok1 hy hplain hC.1 hlal hla h3 h5
          have hpre : ∀ U : State, U.heap = H → s.WarmedH U.vm → e_Pc (y, F.2.1 - 1, F.2.2.1 - (mm + 19), F.2.2.2) ad D tys base as ws (Sum.inr (Sum.inl (some q)) :: t0) (Value.ref b0 :: tc0).toArray U := fun U hU hW => ⟨Value.ref b0 :: tc0, rfl, ⟨hrel0, hst0⟩, by rw [hU]; exact h4, by rw [hU]; exact Nat.le_trans hC.2.2.2.2.2.1 h6.1, e_Kx_warm hW hC.2.2.2.2.1, by
            rw [hU]
            exact e_sf_moved hW.alike (fun q hq hA => h6.2.1 q hq hA) (e_sf_F rfl hC.2.2.2.2.2.2.1)⟩
          rw [htr] at hM9
          have hrun := va_runF (e := e) (hat := (hC.2.2.2.2.1.1.1 _ _ hcl).2) (below := below) (meth := meth) (C := C) (As := tc0) (b := b0) (rest := rc) (Ts := e_ws) (own := own) (H := H) (locs := locs) (cells := c.2.1 - k0) (slots := c.2.2 - s0) (g := F0 m pc ls (tc ++ rc)) ⟨hx, hb, rfl, e_own hM ho hC, hC.2.2.2.1⟩ hM9 (show va_CI R s args own C index xn yn yb mm rt (.code yn yb mm rt :: e_ws) _ _ _ n from ⟨⟨rfl, rfl, by show F.2.1 - 1 + 1 ≤ R.frames; omega, by show 8 + (mm + 11) + (F.2.2.1 - (mm + 19)) ≤ R.locals; omega, pay_in hC.2.2.2.1 (e_good hcode), List.mem_cons_self⟩, e_wd hC hlink rfl, va_any rfl (hC.2.2.2.2.1.2.2.2.2.2 _ hfw).1, va_any rfl (hC.2.2.2.2.1.2.2.2.2.2 _ hfw).2.1, e_wd hC hsel rfl, e_wd hC hinst rfl, va_any rfl (hC.2.2.2.2.1.2.2.2.2.2 _ hfw).2.2.1, va_any rfl (hC.2.2.2.2.1.2.2.2.2.2 _ hfw).2.2.2.1, va_any rfl (hC.2.2.2.2.1.2.2.2.2.2 _ hfw).2.2.2.2, e_wd hC hini rfl, e_wd hC hcode rfl, ⟨hdn.1, hdn.2.1⟩, e_par hdn.2.2⟩) ⟨e_Pc_blind, e_recv hC h3 h4 hb0 hc9 hcl, hpre⟩ rfl hlen0 (h1.2.choose_spec.1.1.trans (by obtain ⟨-, -, -, -, -, -, -, q9, -, -, r3, -⟩ := hC; exact r3.symm)) (by rw [htc]; simp) (lv_room hwd) hd ⟨by omega, by omega⟩
          refine e_runW5 hrun h6 (fun as1 ws1 H1 locs1 xo q1 q2 q3 q4 q5 q6 => ?_)
          have hfin := hWG as1 ws1 H1 locs1 ls (xo ++ rc) ⟨e_lo_mono h1 q1, by cases q6; exact e_st_mono q1 ht3, q2, q3, q4, q5, List.IsPrefix.trans h7 q1⟩
          subst hnx
          rw [show c.2.1 - k0 + (c1.2.1 - c.2.1) = c1.2.1 - k0 by omega, show c.2.2 - s0 + (c1.2.2 - c.2.2) = c1.2.2 - s0 by omega]
          exact hfin
        · obtain ⟨z2, w2, c2, hK2, hok2⟩ := hg _ _ _ _ _ _ _ hres
          refine ⟨z2, w2, c2, hK2, Nat.le_trans hok1.1 hok2.1, Nat.le_trans hok1.2.1 hok2.2.1, Nat.le_trans hok1.2.2.1 hok2.2.2.1, ?_⟩
          intro p l e R s m args below meth cd Q ad D tys base nL as0 k0 s0 hC hf hl hk hs hc hsl hE
          have hok1' := hok1
          obtain ⟨b1, b2, b3, -⟩ := hok1'
          have hWG := hok2.2.2.2 p l e R s m args below meth cd Q ad D tys base nL as0 k0 s0 hC hf hl (by omega) (by omega) hc hsl hE
          obtain ⟨hx, hb⟩ := e_cc hM hq hC
          have d2 := hok2.2.1
          have d3 := hok2.2.2.1
          intro as ws H locs ls ys hS
          obtain ⟨h1, h2, h3, h4, h5, h6, h7⟩ := hS
          obtain ⟨tc, rc, rfl, ht1, ht2, ht3⟩ := e_st_app h2
          have hrv := e_st_rev ht2
          rw [htr] at hrv
          obtain ⟨x0, tc0, htc0, hrel0, hst0⟩ := e_st_cons hrv
          obtain ⟨b0, hb0, rfl⟩ := e_ref hrel0
          have htc : tc = tc0.reverse ++ [.ref b0] := by rw [← List.reverse_reverse tc, htc0, List.reverse_cons]
          have hlen0 : tc0.length = n := by
            have e1 := congrArg List.length htc
            simp [ht1, ht0] at e1
            omega
          have hwd : (rc.map fun v => v.category).sum ≤ 8 := by rw [e_stw_t ht3]; exact hst8
          have hM9 := e_met (ad := ad) (D := D) (tys := tys) (base := base) (as0 := as) (ws0 := ws) (l := l) hok1 hy hplain hC.1 hlal hla h3 h5
          have hpre : ∀ U : State, U.heap = H → s.WarmedH U.vm → e_Pc (y, F.2.1 - 1, F.2.2.1 - (mm + 19), F.2.2.2) ad D tys base as ws (Sum.inr (Sum.inl (some q)) :: t0) (Value.ref b0 :: tc0).toArray U := fun U hU hW => ⟨Value.ref b0 :: tc0, rfl, ⟨hrel0, hst0⟩, by rw [hU]; exact h4, by rw [hU]; exact Nat.le_trans hC.2.2.2.2.2.1 h6.1, e_Kx_warm hW hC.2.2.2.2.1, by
            rw [hU]
            exact e_sf_moved hW.alike (fun q hq hA => h6.2.1 q hq hA) (e_sf_F rfl hC.2.2.2.2.2.2.1)⟩
          rw [htr] at hM9
          have hrun := va_runF (e := e) (hat := (hC.2.2.2.2.1.1.1 _ _ hcl).2) (below := below) (meth := meth) (C := C) (As := tc0) (b := b0) (rest := rc) (Ts := e_ws) (own := own) (H := H) (locs := locs) (cells := c.2.1 - k0) (slots := c.2.2 - s0) (g := F0 m pc ls (tc ++ rc)) ⟨hx, hb, rfl, e_own hM ho hC, hC.2.2.2.1⟩ hM9 (show va_CI R s args own C index xn yn yb mm rt (.code yn yb mm rt :: e_ws) _ _ _ n from ⟨⟨rfl, rfl, by show F.2.1 - 1 + 1 ≤ R.frames; omega, by show 8 + (mm + 11) + (F.2.2.1 - (mm + 19)) ≤ R.locals; omega, pay_in hC.2.2.2.1 (e_good hcode), List.mem_cons_self⟩, e_wd hC hlink rfl, va_any rfl (hC.2.2.2.2.1.2.2.2.2.2 _ hfw).1, va_any rfl (hC.2.2.2.2.1.2.2.2.2.2 _ hfw).2.1, e_wd hC hsel rfl, e_wd hC hinst rfl, va_any rfl (hC.2.2.2.2.1.2.2.2.2.2 _ hfw).2.2.1, va_any rfl (hC.2.2.2.2.1.2.2.2.2.2 _ hfw).2.2.2.1, va_any rfl (hC.2.2.2.2.1.2.2.2.2.2 _ hfw).2.2.2.2, e_wd hC hini rfl, e_wd hC hcode rfl, ⟨hdn.1, hdn.2.1⟩, e_par hdn.2.2⟩) ⟨e_Pc_blind, e_recv hC h3 h4 hb0 hc9 hcl, hpre⟩ rfl hlen0 (h1.2.choose_spec.1.1.trans (by obtain ⟨-, -, -, -, -, -, -, q9, -, -, r3, -⟩ := hC; exact r3.symm)) (by rw [htc]; simp) (lv_room hwd) hd ⟨by omega, by omega⟩
          refine e_runW5 hrun h6 (fun as1 ws1 H1 locs1 xo q1 q2 q3 q4 q5 q6 => ?_)
          have hfin := hWG as1 ws1 H1 locs1 ls (xo ++ rc) ⟨e_lo_mono h1 q1, by obtain ⟨x, rfl, hx9⟩ := q6; exact ⟨hx9, e_st_mono q1 ht3⟩, q2, q3, q4, q5, List.IsPrefix.trans h7 q1⟩
          subst hnx
          rw [show c.2.1 - k0 + (c1.2.1 - c.2.1) = c1.2.1 - k0 by omega, show c.2.2 - s0 + (c1.2.2 - c.2.2) = c1.2.2 - s0 by omega]
          exact hfin
        · cases hres
      · cases h
    · cases h
  · cases h


end SN
