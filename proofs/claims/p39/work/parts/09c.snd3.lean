section SN
variable {M pc : Nat} {cc : ByteArray}
theorem e_lcmpR {p : Program} {l : Launch} {e : Env} {R : Room} {s : State} {m : MethodId} {args : Array Value} {below : List Frame} {meth : Method} {cd : Code} {Q : State → Prop} {ad : Nat → Nat} {D : va_G} {tys : List (ClassId × FieldType)} {A : Nat → Prop} {H0 : Heap} {nL : Nat} {as0 : List Nat} {k0 s0 : Nat} {al : e_A} {r : List e_V} {w : e_W} {c : e_Q} {nx : Nat} {a b v : e_V} {q1 q2 : Nat × Nat} (hx : p.tables.exec = Jvm.exec) (hb : cd.code = cc) (hd : decode cc pc = .ok (.lcmp, 1)) (hnx : nx = pc + 1) (h1 : e_rgL a = some q1) (h2 : e_rgL b = some q2)
    (hv : ∀ as i j, q1.1 ≤ i → i ≤ q1.2 → q2.1 ≤ j → j ≤ q2.2 → e_rel ad as v (.int (if j < i then e_i 2147483649 else if i = j then e_i 2147483648 else e_i 2147483647))) (h : e_WG p l e R s m args below meth cd Q ad D e_cl tys A H0 nL as0 k0 s0 nx al (v :: r) w c) : e_WG p l e R s m args below meth cd Q ad D e_cl tys A H0 nL as0 k0 s0 pc al (b :: a :: r) w c :=
  e_pure (st' := v :: r) (fun as ys h9 => by
    obtain ⟨y, ys, rfl, hy, h3⟩ := e_st_cons h9
    obtain ⟨x, ys, rfl, hx9, h4⟩ := e_st_cons h3
    obtain ⟨i, i1, i2, i3, rfl⟩ := e_rel_rgL hx9 h1
    obtain ⟨j, j1, j2, j3, rfl⟩ := e_rel_rgL hy h2
    refine ⟨.int (if j < i then e_i 2147483649 else if i = j then e_i 2147483648 else e_i 2147483647) :: ys, ⟨hv as i j i1 i2 j1 j2, h4⟩, fun H locs cells slots ls k => ?_⟩
    subst hnx
    refine W.lcmp hx hb hd ?_
    rw [n_cmp i3 j3]
    exact k) h
theorem s_lcmp {nx : Nat} (hq : (e_ml[M]?).map (·.2.1) = some cc) (hd : decode cc pc = .ok (.lcmp, 1)) (hnx : nx = pc + 1) : e_Sn M pc (o_lcmp nx) := by
  intro g hg F al st w c K hM h
  unfold o_lcmp at h
  split at h
  · next b a r =>
    split at h
    · next l1 h1 l2 h2 ha hb' =>
      cases g1 : Nat.blt h1 l2 with
      | true =>
        rw [g1, cond_true] at h
        replace g1 : h1 < l2 := Nat.le_of_ble_eq_true g1
        obtain ⟨z, w', c', hK, hok⟩ := hg _ _ _ _ _ _ _ h
        refine ⟨z, w', c', hK, e_step hok ?_⟩
        intro p l e R s m args below meth cd Q ad D tys base nL as0 k0 s0 hC hW
        obtain ⟨hx, hb⟩ := e_cc hM hq hC
        exact e_lcmpR hx hb hd hnx ha hb' (fun as i j i1 i2 j1 j2 => by
          dsimp only at i1 i2 j1 j2
          rw [if_neg (by omega), if_neg (by omega)]
          exact ⟨by decide, rfl⟩) hW
      | false =>
        rw [g1, cond_false] at h
        cases g2 : Nat.blt h2 l1 with
        | true =>
          rw [g2, cond_true] at h
          replace g2 : h2 < l1 := Nat.le_of_ble_eq_true g2
          obtain ⟨z, w', c', hK, hok⟩ := hg _ _ _ _ _ _ _ h
          refine ⟨z, w', c', hK, e_step hok ?_⟩
          intro p l e R s m args below meth cd Q ad D tys base nL as0 k0 s0 hC hW
          obtain ⟨hx, hb⟩ := e_cc hM hq hC
          exact e_lcmpR hx hb hd hnx ha hb' (fun as i j i1 i2 j1 j2 => by
            dsimp only at i1 i2 j1 j2
            rw [if_pos (by omega)]
            exact ⟨by decide, rfl⟩) hW
        | false =>
          rw [g2, cond_false] at h
          cases g3 : Nat.ble h2 l1 with
          | true =>
            rw [g3, cond_true] at h
            replace g3 := Nat.le_of_ble_eq_true g3
            cases g4 : Nat.ble h1 l2 with
            | true =>
              rw [g4, cond_true] at h
              replace g4 := Nat.le_of_ble_eq_true g4
              obtain ⟨z, w', c', hK, hok⟩ := hg _ _ _ _ _ _ _ h
              refine ⟨z, w', c', hK, e_step hok ?_⟩
              intro p l e R s m args below meth cd Q ad D tys base nL as0 k0 s0 hC hW
              obtain ⟨hx, hb⟩ := e_cc hM hq hC
              exact e_lcmpR hx hb hd hnx ha hb' (fun as i j i1 i2 j1 j2 => by
                dsimp only at i1 i2 j1 j2
                rw [if_neg (by omega), if_pos (by omega)]
                exact ⟨by decide, rfl⟩) hW
            | false =>
              rw [g4, cond_false] at h
              obtain ⟨z, w', c', hK, hok⟩ := hg _ _ _ _ _ _ _ h
              refine ⟨z, w', c', hK, e_step hok ?_⟩
              intro p l e R s m args below meth cd Q ad D tys base nL as0 k0 s0 hC hW
              obtain ⟨hx, hb⟩ := e_cc hM hq hC
              exact e_lcmpR hx hb hd hnx ha hb' (fun as i j i1 i2 j1 j2 => by
                dsimp only at i1 i2 j1 j2
                by_cases hij : j < i
                · rw [if_pos hij]; exact ⟨_, by decide, by decide, by decide, rfl⟩
                · rw [if_neg hij, if_pos (by omega)]; exact ⟨_, by decide, by decide, by decide, rfl⟩) hW
          | false =>
            rw [g3, cond_false] at h
            cases g4 : Nat.ble h1 l2 with
            | true =>
              rw [g4, cond_true] at h
              replace g4 := Nat.le_of_ble_eq_true g4
              obtain ⟨z, w', c', hK, hok⟩ := hg _ _ _ _ _ _ _ h
              refine ⟨z, w', c', hK, e_step hok ?_⟩
              intro p l e R s m args below meth cd Q ad D tys base nL as0 k0 s0 hC hW
              obtain ⟨hx, hb⟩ := e_cc hM hq hC
              exact e_lcmpR hx hb hd hnx ha hb' (fun as i j i1 i2 j1 j2 => by
                dsimp only at i1 i2 j1 j2
                rw [if_neg (by omega)]
                by_cases hij : i = j
                · rw [if_pos hij]; exact ⟨_, by decide, by decide, by decide, rfl⟩
                · rw [if_neg hij]; exact ⟨_, by decide, by decide, by decide, rfl⟩) hW
            | false => rw [g4, cond_false] at h; cases h
    · cases h
  · cases h
end SN
