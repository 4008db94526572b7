/-! THE STATEMENT IS FALSE AS PRINTED: the kit's own word for it -/
section RS
theorem r_words_1 : ∀ c ∈ tables_1_1, c.before start1.args0 r_about = true := r_mix start1.words_1 r_c_1
theorem r_words_2 : ∀ c ∈ tables_1_2, c.before start1.args0 r_about = true := r_mix start1.words_2 r_c_2
theorem r_words_3 : ∀ c ∈ tables_1_3, c.before start1.args0 r_about = true := r_mix start1.words_3 r_c_3
theorem r_words_4 : ∀ c ∈ tables_1_4, c.before start1.args0 r_about = true := r_mix start1.words_4 r_c_4
theorem r_words_5 : ∀ c ∈ tables_1_5, c.before start1.args0 r_about = true := r_mix start1.words_5 r_c_5
theorem r_words_6 : ∀ c ∈ tables_1_6, c.before start1.args0 r_about = true := r_mix start1.words_6 r_c_6
theorem r_words_7 : ∀ c ∈ tables_1_7, c.before start1.args0 r_about = true := r_mix start1.words_7 r_c_7
theorem r_words_8 : ∀ c ∈ tables_1_8, c.before start1.args0 r_about = true := r_mix start1.words_8 r_c_8
theorem r_words_9 : ∀ c ∈ tables_1_9, c.before start1.args0 r_about = true := r_mix start1.words_9 r_c_9
theorem r_words_10 : ∀ c ∈ tables_1_10, c.before start1.args0 r_about = true := r_mix start1.words_10 r_c_10
theorem r_words_11 : ∀ c ∈ tables_1_11, c.before start1.args0 r_about = true := r_mix start1.words_11 r_c_11
theorem r_words_12 : ∀ c ∈ tables_1_12, c.before start1.args0 r_about = true := r_mix start1.words_12 r_c_12
theorem r_words_13 : ∀ c ∈ tables_1_13, c.before start1.args0 r_about = true := r_mix start1.words_13 r_c_13
theorem r_words : ∀ c ∈ (Cond.code x code maxLocals ret :: tables_1), c.before start1.args0 r_about = true := by
  intro c hc
  rcases List.mem_cons.mp hc with h | h
  · rw [h]; exact r_vmT r_vm rfl start1.word_code
  · unfold tables_1 at h
    rcases List.mem_append.mp h with h2 | h
    · exact r_words_1 c h2
    rcases List.mem_append.mp h with h2 | h
    · exact r_words_2 c h2
    rcases List.mem_append.mp h with h2 | h
    · exact r_words_3 c h2
    rcases List.mem_append.mp h with h2 | h
    · exact r_words_4 c h2
    rcases List.mem_append.mp h with h2 | h
    · exact r_words_5 c h2
    rcases List.mem_append.mp h with h2 | h
    · exact r_words_6 c h2
    rcases List.mem_append.mp h with h2 | h
    · exact r_words_7 c h2
    rcases List.mem_append.mp h with h2 | h
    · exact r_words_8 c h2
    rcases List.mem_append.mp h with h2 | h
    · exact r_words_9 c h2
    rcases List.mem_append.mp h with h2 | h
    · exact r_words_10 c h2
    rcases List.mem_append.mp h with h2 | h
    · exact r_words_11 c h2
    rcases List.mem_append.mp h with h2 | h
    · exact r_words_12 c h2
    exact r_words_13 c h
theorem r_and {a b : Jvm.Cond} (h1 : a.before start1.args0 r_about = true) (h2 : b.before start1.args0 r_about = true) : (Jvm.Cond.and a b).before start1.args0 r_about = true := by rw [Cond.before_and, h1, h2]; rfl
set_option maxRecDepth 16384 in
theorem r_nar_1 : narrow_1_1.before start1.args0 r_about = true := by decide +kernel
set_option maxRecDepth 16384 in
theorem r_nar_2 : narrow_1_2.before start1.args0 r_about = true := by decide +kernel
set_option maxRecDepth 16384 in
theorem r_nar_3 : narrow_1_3.before start1.args0 r_about = true := by decide +kernel
set_option maxRecDepth 16384 in
theorem r_nar_4 : narrow_1_4.before start1.args0 r_about = true := by decide +kernel
theorem r_given : (Jvm.Cond.and given_1 narrow_1).before start1.args0 r_about = true := r_and (show given_1.before start1.args0 r_about = true by decide +kernel) (by unfold narrow_1; exact (r_and (r_and r_nar_1 r_nar_2) (r_and r_nar_3 r_nar_4)))
theorem lw_pre_spec {args : Array Value} {s : State} (h : (Jvm.Cond.and given_1 narrow_1).before args s = true) (hr : rest_1_c.before args s = true) : ∃ (b : Addr) (xs : List Int32), lw_P b xs args s := by
  have hs := flat_of_before _ h
  have hq := flat_of_before _ hr
  have hc : (Cond.count 1).before args s = true := hs _ (by decide +kernel)
  have harr : (Cond.arrayOf (.arg 0) .int).before args s = true := hs _ (by decide +kernel)
  have hle : (Cond.le (.length (.arg 0)) (.int 3584)).before args s = true := hs _ (by decide +kernel)
  have hlen : (Cond.isInt (.length (.arg 0))).before args s = true := hq _ (by decide +kernel)
  have hall : (Cond.all (.arg 0) (.isInt (.elem (.arg 0) (.index 0)))).before args s = true := hq _ (by decide +kernel)
  obtain ⟨b, xs, hb, hx⟩ := State.ints_of_pre rfl harr hlen hall
  have hsm : xs.length < 2 ^ 31 := hx.choose_spec.2.2.2
  have hev : (Term.length (.arg 0)).eval args s none [] s = some (.int xs.length.toInt32) := hx.length_eval hb
  have hv := Cond.le_ints hev (show (Term.int 3584).eval args s none [] s = some (.int 3584) from rfl)
  have hd : xs.length.toInt32 ≤ 3584 := by
    simpa [Cond.before, Cond.holds, hv] using hle
  have hN : xs.length ≤ 3584 := (Int32.ofNat_le_ofNat hsm (by decide)).mp (show Int32.ofNat xs.length ≤ Int32.ofNat 3584 from hd)
  exact ⟨b, xs, Cond.one_arg hc (show args[0]? = some (.ref b) from hb), hx, hN, h⟩
theorem r_inj : ∀ {a b : List Int32}, a.map Value.int = b.map Value.int → a = b
  | [], [], _ => rfl
  | x :: a, y :: b, h => by
    obtain ⟨h1, h2⟩ := List.cons.inj h
    rw [Value.int.inj h1, r_inj h2]
  | [], _ :: _, h => by cases h
  | _ :: _, [], h => by cases h
theorem r_rest : rest_1_c.before start1.args0 r_about = true := by decide +kernel
theorem r_app (R : Room) (h : r_about.hasRoom start1.e0.platform R = true) : (Jvm.D.headSpec (Cond.code x code maxLocals ret :: tables_1) R).applies x start1.e0.platform r_about = true :=
  (Spec.applies_iff rfl).mpr ⟨rfl, rfl, rfl, by decide +kernel, by decide +kernel, by decide +kernel, h, atoms_intro r_words⟩
theorem r_has1 : r_about.hasRoom start1.e0.platform room_1 = true := launch0.hasRoom_least _ room_1 (by decide +kernel) (by decide +kernel) (by decide +kernel) (by decide +kernel) (by decide +kernel) (by decide +kernel)
theorem r_has2 : r_about.hasRoom start1.e0.platform r_room = true := launch0.hasRoom_least _ r_room (by decide +kernel) (by decide +kernel) (by decide +kernel) (by decide +kernel) (by decide +kernel) (by decide +kernel)
theorem r_atStart : AtStart classFile x code maxLocals ret World_1 tables_1 room_1 Calls_1 rest_1 Pre_1 launch0 start1.p0 start1.e0 r_about ⟨0, 0⟩ start1.args0 Lib.HandBits.below0 :=
  ⟨lists_1, trivial, launch0.admits_env _ _ _, launch0.least_env, fairChoices_fair.cas, fairChoices_fair.clock, rfl, by decide +kernel, by decide +kernel, r_app room_1 r_has1, trivial, r_rest, r_given⟩
theorem r_head {c : Cell} {l : List Cell} : (List.toArray (c :: l))[0]? = some c := by simp
set_option maxRecDepth 100000 in
theorem r_cell0 (a : Array Value) : ∃ c : Cell, (start1.aboutOf a).heap[0]? = some c ∧ c.slots = a := by
  first
  | exact ⟨_, r_head, rfl⟩
  | exact ⟨_, rfl, rfl⟩
  | (unfold start1.aboutOf; exact ⟨_, by simp; rfl, rfl⟩)
theorem r_P : lw_P 0 r_xs start1.args0 r_about := by
  obtain ⟨b, xs, hb, hx, hN, hg⟩ := lw_pre_spec (args := start1.args0) (s := r_about) r_given r_rest
  have hb0 : b = 0 := by
    have h1 : (#[Value.ref 0] : Array Value) = #[Value.ref b] := hb
    have h3 : some (Value.ref 0) = some (Value.ref b) := congrArg (fun a : Array Value => a[0]?) h1
    cases h3; rfl
  subst hb0
  have hxs : xs = r_xs := by
    obtain ⟨scr, h1, h2, -, -⟩ := hx
    obtain ⟨h3, -, -, -⟩ := State.arrayAt?_spec h1
    have h4 : ∃ c : Cell, r_about.heap[0]? = some c ∧ c.slots = r_cells := r_cell0 r_cells
    obtain ⟨c, h5, h6⟩ := h4
    obtain rfl : scr = c := Option.some.inj (h3.symm.trans h5)
    rw [h6] at h2
    exact (r_inj h2).symm
  subst hxs
  exact ⟨rfl, hx, hN, hg⟩
theorem r_falls : ∃ (n : Nat) (o : Outcome), (∀ k, k < n → Within (stepsAlone start1.p0.tables start1.e0 k r_about) Lib.HandBits.below0) ∧ (stepsAlone start1.p0.tables start1.e0 n r_about).status = Status.running ∧ Ended (stepsAlone start1.p0.tables start1.e0 n r_about) Lib.HandBits.below0 o ∧ r_Q start1.args0 r_about o (stepsAlone start1.p0.tables start1.e0 n r_about) := by
  obtain ⟨n, o, h1, h2, h3, h4⟩ := r_walk launch0 rfl 0 start1.p0 start1.e0 (launch0.admits_env _ _ _) fairChoices_fair.cas fairChoices_fair.clock r_about ⟨0, 0⟩ start1.args0 Lib.HandBits.below0 rfl ((Spec.applies_iff_loose (m := ⟨0, 0⟩) (args := start1.args0) (below := Lib.HandBits.below0) rfl).mp (r_app r_room r_has2)).1 r_P trivial
  exact ⟨n, o, h1, h2, h3, h4⟩
theorem r_no {a : Array Value} {s t : State} {o : Outcome} {L : List Loc} {k n : Nat} (hn : Nat.ble n r_lim = true) (h : r_Q a s o t) : ¬ Framed s o t L k n := by
  rintro ⟨-, -, hs⟩
  exact absurd hs.2.2.2.2.1 (Nat.not_le.mpr (Nat.lt_of_le_of_lt (Nat.le_of_ble_eq_true hn) h.2))
theorem r_refuted : RefutedClaimed_1_1 ∧ RefutedClaimed_1_2 := by
  obtain ⟨n, o, h1, h2, h3, h4⟩ := r_falls
  exact ⟨⟨launch0, start1.p0, start1.e0, r_about, ⟨0, 0⟩, start1.args0, Lib.HandBits.below0, rfl, r_atStart, n, o, h1, h2, h3, fun h => r_no rfl h4 h.2⟩, ⟨launch0, start1.p0, start1.e0, r_about, ⟨0, 0⟩, start1.args0, Lib.HandBits.below0, rfl, r_atStart, n, o, h1, h2, h3, fun h => r_no rfl h4 h.2⟩⟩
/-- so no proof of the owed statement exists -/
theorem r_no2 {s t : State} {o : Outcome} {L : List Loc} {k n : Nat} (hn : Nat.ble n r_lim = true) (h : r_lim < ((t.heap.toList.drop s.heap.size).map (·.slots.size)).sum) : ¬ Framed s o t L k n := by
  rintro ⟨-, -, hs⟩
  exact absurd hs.2.2.2.2.1 (Nat.not_le.mpr (Nat.lt_of_le_of_lt (Nat.le_of_ble_eq_true hn) h))
theorem r_notT {Post : Tables → Env → Array Value → State → Outcome → State → Prop} (hp : ∀ (o : Outcome) (t : State), r_lim < ((t.heap.toList.drop r_about.heap.size).map (·.slots.size)).sum → ¬ Post start1.p0.tables start1.e0 start1.args0 r_about o t) : ¬ Jvm.D.ArmFor flags0 classFile x code maxLocals ret World_1 tables_1 room_1 Calls_1 rest_1 Pre_1 Post := by
  intro h
  obtain ⟨a1, a2, a3, a4, a5, a6, a7, a8, a9, a10, a11, a12, a13⟩ := r_atStart
  obtain ⟨n, o, h1, h2, h3, h4⟩ := r_falls
  obtain ⟨n', o', g1, g2, g3, g4⟩ := h launch0 rfl a1 a2 start1.p0 start1.e0 a3 a5 a6 r_about ⟨0, 0⟩ start1.args0 Lib.HandBits.below0 a7 a8 a9 a10 ⟨a11, a12, a13⟩
  have hn : n' = n := by
    rcases Nat.lt_trichotomy n' n with q | q | q
    · exact absurd (h1 n' q) g3.not_within
    · exact q
    · exact absurd (g1 n q) h3.not_within
  subst hn
  exact hp _ _ h4.2 g4
theorem r_not : ¬ Claimed_1_1 ∧ ¬ Claimed_1_2 := ⟨r_notT (fun _ _ ht hP => r_no2 rfl ht hP.2), r_notT (fun _ _ ht hP => r_no2 rfl ht hP.2)⟩
theorem r_not_owed : ¬ (Claimed_1_1 ∧ Claimed_1_2) := fun h => r_not.1 h.1
end RS
