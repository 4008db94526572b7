section RS
theorem r_and {a b : Jvm.Cond} (h1 : a.before start1.args0 r_about = true) (h2 : b.before start1.args0 r_about = true) : (Jvm.Cond.and a b).before start1.args0 r_about = true := by rw [Cond.before_and, h1, h2]; rfl
set_option maxRecDepth 16384 in
theorem r_nar_1 : narrow_1_1.before start1.args0 r_about = true := by decide +kernel
set_option maxRecDepth 16384 in
theorem r_nar_2 : narrow_1_2.before start1.args0 r_about = true := by decide +kernel
set_option maxRecDepth 16384 in
theorem r_nar_3 : narrow_1_3.before start1.args0 r_about = true := by decide +kernel
set_option maxRecDepth 16384 in
theorem r_nar_4 : narrow_1_4.before start1.args0 r_about = true := by decide +kernel
end RS
