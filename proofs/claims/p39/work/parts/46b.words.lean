section RS
/-! THE STATEMENT IS FALSE AS PRINTED: the kit's own word for it -/
theorem r_words_1 : ∀ c ∈ tables_1_1, c.before start1.args0 r_about = true := r_mix start1.words_1 r_c_1
theorem r_words_2 : ∀ c ∈ tables_1_2, c.before start1.args0 r_about = true := r_mix start1.words_2 r_c_2
theorem r_words_3 : ∀ c ∈ tables_1_3, c.before start1.args0 r_about = true := r_mix start1.words_3 r_c_3
theorem r_words_4 : ∀ c ∈ tables_1_4, c.before start1.args0 r_about = true := r_mix start1.words_4 r_c_4
theorem r_words_5 : ∀ c ∈ tables_1_5, c.before start1.args0 r_about = true := r_mix start1.words_5 r_c_5
theorem r_words_6 : ∀ c ∈ tables_1_6, c.before start1.args0 r_about = true := r_mix start1.words_6 r_c_6
theorem r_words_7 : ∀ c ∈ tables_1_7, c.before start1.args0 r_about = true := r_mix start1.words_7 r_c_7
theorem r_words_8 : ∀ c ∈ tables_1_8, c.before start1.args0 r_about = true := r_mix start1.words_8 r_c_8
theorem r_words_9 : ∀ c ∈ tables_1_9, c.before start1.args0 r_about = true := r_mix start1.words_9 r_c_9
theorem r_words_10 : ∀ c ∈ tables_1_10, c.before start1.args0 r_about = true := r_mix start1.words_10 r_c_10
theorem r_words_11 : ∀ c ∈ tables_1_11, c.before start1.args0 r_about = true := r_mix start1.words_11 r_c_11
theorem r_words_12 : ∀ c ∈ tables_1_12, c.before start1.args0 r_about = true := r_mix start1.words_12 r_c_12
theorem r_words_13 : ∀ c ∈ tables_1_13, c.before start1.args0 r_about = true := r_mix start1.words_13 r_c_13
theorem r_words : ∀ c ∈ (Cond.code x code maxLocals ret :: tables_1), c.before start1.args0 r_about = true := by
  intro c hc
  rcases List.mem_cons.mp hc with h | h
  · rw [h]; exact r_vmT r_vm rfl start1.word_code
  · unfold tables_1 at h
    rcases List.mem_append.mp h with h2 | h
    · exact r_words_1 c h2
    rcases List.mem_append.mp h with h2 | h
    · exact r_words_2 c h2
    rcases List.mem_append.mp h with h2 | h
    · exact r_words_3 c h2
    rcases List.mem_append.mp h with h2 | h
    · exact r_words_4 c h2
    rcases List.mem_append.mp h with h2 | h
    · exact r_words_5 c h2
    rcases List.mem_append.mp h with h2 | h
    · exact r_words_6 c h2
    rcases List.mem_append.mp h with h2 | h
    · exact r_words_7 c h2
    rcases List.mem_append.mp h with h2 | h
    · exact r_words_8 c h2
    rcases List.mem_append.mp h with h2 | h
    · exact r_words_9 c h2
    rcases List.mem_append.mp h with h2 | h
    · exact r_words_10 c h2
    rcases List.mem_append.mp h with h2 | h
    · exact r_words_11 c h2
    rcases List.mem_append.mp h with h2 | h
    · exact r_words_12 c h2
    exact r_words_13 c h
end RS
