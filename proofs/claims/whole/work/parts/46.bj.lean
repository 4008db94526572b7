section RS
set_option maxRecDepth 16384 in
theorem r_c_13_0 : (tables_1_13.take 40).all (fun c => su_isCode c || c.before start1.args0 r_about) = true := by decide +kernel
set_option maxRecDepth 16384 in
theorem r_c_13_1 : ((tables_1_13.drop 40).take 40).all (fun c => su_isCode c || c.before start1.args0 r_about) = true := by decide +kernel
set_option maxRecDepth 16384 in
theorem r_c_13_2 : ((tables_1_13.drop 80).take 40).all (fun c => su_isCode c || c.before start1.args0 r_about) = true := by decide +kernel
set_option maxRecDepth 16384 in
theorem r_c_13_3 : ((tables_1_13.drop 120).take 40).all (fun c => su_isCode c || c.before start1.args0 r_about) = true := by decide +kernel
set_option maxRecDepth 16384 in
theorem r_c_13_4 : (tables_1_13.drop 160).all (fun c => su_isCode c || c.before start1.args0 r_about) = true := by decide +kernel
end RS
