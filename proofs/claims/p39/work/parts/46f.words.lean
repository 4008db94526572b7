section RS
theorem r_rest : rest_1_c.before start1.args0 r_about = true := by decide +kernel
end RS
