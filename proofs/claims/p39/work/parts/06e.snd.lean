section SN
theorem e_cc {F : e_F} {M nL base : Nat} {cc : ByteArray} {p : Program} {l : Launch} {s : State} {m : MethodId} {args : Array Value} {meth : Method} {cd : Code} {ad : Nat → Nat} {D : va_G} {tys : List (ClassId × FieldType)} (hM : F.1 = M) (hq : (e_ml[M]?).map (·.2.1) = some cc) (hC : e_Cx F p l s m args meth cd ad D tys base nL) : p.tables.exec = Jvm.exec ∧ cd.code = cc := by
  obtain ⟨-, hx, -, -, -, -, -, q, h1, h2, -⟩ := hC
  rw [hM] at h1
  rw [h1] at hq
  cases hq
  exact ⟨hx, h2⟩
theorem e_own {F : e_F} {M nL base : Nat} {own : String} {p : Program} {l : Launch} {s : State} {m : MethodId} {args : Array Value} {meth : Method} {cd : Code} {ad : Nat → Nat} {D : va_G} {tys : List (ClassId × FieldType)} (hM : F.1 = M) (ho : (e_ml[M]?).map (·.1.cls) = some own) (hC : e_Cx F p l s m args meth cd ad D tys base nL) : s.vm.findClass own = some m.cls := by
  obtain ⟨-, hx, -, -, -, -, -, q, h1, h2, -, -, h5, -⟩ := hC
  rw [hM] at h1
  rw [h1] at ho
  cases ho
  exact h5
theorem e_wd {F : e_F} {nL base : Nat} {p : Program} {l : Launch} {s : State} {m : MethodId} {args : Array Value} {meth : Method} {cd : Code} {ad : Nat → Nat} {D : va_G} {tys : List (ClassId × FieldType)} (hC : e_Cx F p l s m args meth cd ad D tys base nL) {w : Jvm.Cond} (hw : w ∈ lw_tbl) (hg : goodWord w = true) : w.before args s = true := hC.2.2.2.1 w (List.mem_filter.mpr ⟨hw, hg⟩)
variable {M pc : Nat} {cc : ByteArray}
end SN
