section RS
set_option maxRecDepth 16384 in
theorem r_c_7_4 : ((tables_1_7.drop 160).take 40).all (fun c => su_isCode c || c.before start1.args0 r_about) = true := by decide +kernel
set_option maxRecDepth 16384 in
theorem r_c_7_5 : (tables_1_7.drop 200).all (fun c => su_isCode c || c.before start1.args0 r_about) = true := by decide +kernel
set_option maxRecDepth 16384 in
theorem r_c_8_0 : (tables_1_8.take 40).all (fun c => su_isCode c || c.before start1.args0 r_about) = true := by decide +kernel
set_option maxRecDepth 16384 in
theorem r_c_8_1 : ((tables_1_8.drop 40).take 40).all (fun c => su_isCode c || c.before start1.args0 r_about) = true := by decide +kernel
set_option maxRecDepth 16384 in
theorem r_c_8_2 : ((tables_1_8.drop 80).take 40).all (fun c => su_isCode c || c.before start1.args0 r_about) = true := by decide +kernel
set_option maxRecDepth 16384 in
theorem r_c_8_3 : ((tables_1_8.drop 120).take 40).all (fun c => su_isCode c || c.before start1.args0 r_about) = true := by decide +kernel
set_option maxRecDepth 16384 in
theorem r_c_8_4 : ((tables_1_8.drop 160).take 40).all (fun c => su_isCode c || c.before start1.args0 r_about) = true := by decide +kernel
set_option maxRecDepth 16384 in
theorem r_c_8_5 : (tables_1_8.drop 200).all (fun c => su_isCode c || c.before start1.args0 r_about) = true := by decide +kernel
end RS
